def fn_C_init   (x2 : Int32) : Option (Int32 × Int32 × Int32) :=
  some (x2, 0, (-1))
def fn_C_isBehindLastLine (cz : Int32) (le : Int32)   : Option (Int32) :=
  if (le + 1) < cz then
    some 0
  else
    some 1
def fb_C_goToNextLine_15 (cz : Int32) (ch : Nat → Int32)  (k15 : Int32 × Int32 × Int32 → Option (Int32 × Int32 × Int32)) (sp : Int32) (le : Int32) (x1 : Int32) : Option (Int32 × Int32 × Int32) :=
  if cz ≤ x1 then
    some (0, sp, cz)
  else
    jv_gd (jv_ig x1 3000) <|
    if (ch x1.toNatClampNeg) = 10 then
      some (1, sp, x1)
    else
      k15 (sp, le, x1 + 1)
def fl_C_goToNextLine_15 (cz : Int32) (ch : Nat → Int32)  : Nat → Int32 × Int32 × Int32 → Option (Int32 × Int32 × Int32) := jv_lp (fun k z => fb_C_goToNextLine_15 cz ch  k z.1 z.2.1 z.2.2)
def fn_C_goToNextLine (cz : Int32) (ch : Nat → Int32) (sp : Int32) (le : Int32)  : Option (Int32 × Int32 × Int32) :=
  fl_C_goToNextLine_15 cz ch 4000 (le + 1, le, le + 1)
def fn_C_isAtLineEnd (sp : Int32) (le : Int32)   : Option (Int32) :=
  if sp = le then
    some 1
  else
    some 0
def fb_C_skipText_20 (le : Int32) (ch : Nat → Int32)  (k20 : Int32 × Nat × Int32 → Option (Int32 × Int32)) (sp : Int32) (x1 : Nat) (x2 : Int32) : Option (Int32 × Int32) :=
  Option.bind (fn_S_length x1) fun o_22 =>
  if o_22 ≤ x2 then
    Option.bind (fn_S_length x1) fun o_61 =>
    some (1, sp + o_61)
  else
    jv_gd (jv_ig (sp + x2) 3000) <|
    Option.bind (fn_S_charAt x1 x2) fun o_41 =>
    if (ch (sp + x2).toNatClampNeg) = o_41 then
      k20 (sp, x1, x2 + 1)
    else
      some (0, sp)
def fl_C_skipText_20 (le : Int32) (ch : Nat → Int32)  : Nat → Int32 × Nat × Int32 → Option (Int32 × Int32) := jv_lp (fun k z => fb_C_skipText_20 le ch  k z.1 z.2.1 z.2.2)
def fn_C_skipText (le : Int32) (ch : Nat → Int32) (sp : Int32) (x1 : Nat) : Option (Int32 × Int32) :=
  Option.bind (fn_S_length x1) fun o_1 =>
  if o_1 ≤ (le - sp) then
    fl_C_skipText_20 le ch 4000 (sp, x1, 0)
  else
    some (0, sp)
def fb_C_skipIndent_2 (le : Int32) (ch : Nat → Int32)  (k2 : Int32 × Int32 × Int32 → Option (Int32 × Int32)) (sp : Int32) (x1 : Int32) (x2 : Int32) : Option (Int32 × Int32) :=
  if x1 ≤ x2 then
    some (1, sp)
  else
    Option.bind (fn_C_skipText le ch sp 1) fun o_10 =>
    if o_10.1 = 0 then
      some (0, o_10.2)
    else
      k2 (o_10.2, x1, x2 + 1)
def fl_C_skipIndent_2 (le : Int32) (ch : Nat → Int32)  : Nat → Int32 × Int32 × Int32 → Option (Int32 × Int32) := jv_lp (fun k z => fb_C_skipIndent_2 le ch  k z.1 z.2.1 z.2.2)
def fn_C_skipIndent (le : Int32) (ch : Nat → Int32) (sp : Int32) (x1 : Int32) : Option (Int32 × Int32) :=
  fl_C_skipIndent_2 le ch 4000 (sp, x1, 0)
def fb_C_takeLetter_84 (le : Int32) (ch : Nat → Int32)  (sp : Int32) (x1 : Int32) (x2 : Int32) : Option (Int32 × Int32) :=
  if x1 = 0 then
    some (0, sp)
  else
    if x1 = 92 then
      some (0, sp)
    else
      if x1 = 35 then
        some (0, sp)
      else
        if x1 = 32 then
          if x2 = 35 then
            some (0, sp)
          else
            some (x1, sp + 1)
        else
          some (x1, sp + 1)
def fb_C_takeLetter_53 (le : Int32) (ch : Nat → Int32)  (sp : Int32) (x1 : Int32) (y0 : Int32) : Option (Int32 × Int32) :=
  if x1 = 92 then
    if y0 = 92 then
      some (y0, sp + 2)
    else
      if y0 = 35 then
        some (y0, sp + 2)
      else
        fb_C_takeLetter_84 le ch sp x1 y0
  else
    fb_C_takeLetter_84 le ch sp x1 y0
def fb_C_takeLetter_24 (le : Int32) (ch : Nat → Int32)  (sp : Int32) (y0 : Int32) : Option (Int32 × Int32) :=
  if le ≤ (sp + 1) then
    fb_C_takeLetter_53 le ch sp y0 0
  else
    jv_gd (jv_ig (sp + 1) 3000) <|
    fb_C_takeLetter_53 le ch sp y0 (ch (sp + 1).toNatClampNeg)
def fn_C_takeLetter (le : Int32) (ch : Nat → Int32) (sp : Int32)  : Option (Int32 × Int32) :=
  if le ≤ sp then
    fb_C_takeLetter_24 le ch sp 0
  else
    jv_gd (jv_ig sp 3000) <|
    fb_C_takeLetter_24 le ch sp (ch sp.toNatClampNeg)
def fn_C_skipDigit (le : Int32) (ch : Nat → Int32) (sp : Int32) (x1 : Int32) : Option (Int32 × Int32) :=
  if le ≤ sp then
    some (0, sp)
  else
    jv_gd (jv_ig sp 3000) <|
    if (ch sp.toNatClampNeg) = (48 + x1) then
      some (1, sp + 1)
    else
      some (0, sp)
def fn_N_codeAt   (x0 : Int64) (x2 : Int32) : Option (Int32) :=
  some ((((x0.toUInt64 >>> ((7 * x2).toInt64.toUInt64 &&& Int64.toUInt64 63)).toInt64).toInt32) &&& 127)
def fn_N_withLetter   (x0 : Int64) (x2 : Int32) (x3 : Int32) : Option (Int64) :=
  some (x0 ||| (x3.toInt64 <<< ((7 * x2).toInt64 &&& 63)))
def fn_P_init    : Option (Int32 × (Nat → Int32)) :=
  some (0, fun _ => 0)
def fn_P_size (zp : Int32)   : Option (Int32) :=
  some zp
def fn_P_codeAt (zp : Int32) (ch : Nat → Int32)  (x1 : Int32) : Option (Int32) :=
  if x1 < 0 then
    some (-1)
  else
    if zp ≤ x1 then
      some (-1)
    else
      jv_gd (jv_ig x1 3000) <|
      some (ch x1.toNatClampNeg)
def fn_P_add  (zp : Int32) (ch : Nat → Int32) (x1 : Int32) : Option (Int32 × Int32 × (Nat → Int32)) :=
  if zp < 3000 then
    jv_gd (jv_ig zp 3000) <|
    some (1, zp + 1, upd ch zp.toNatClampNeg (vp_nar .char x1))
  else
    some (0, zp, ch)
def fn_P_replace (zp : Int32) (ch : Nat → Int32) (x1 : Int32) (x2 : Int32) : Option (Int32 × (Nat → Int32)) :=
  if x1 < 0 then
    some (0, ch)
  else
    if x1 < zp then
      jv_gd (jv_ig x1 3000) <|
      some (1, upd ch x1.toNatClampNeg (vp_nar .char x2))
    else
      some (0, ch)
def fn_P_shorten  (zp : Int32) (x1 : Int32) : Option (Int32 × Int32) :=
  if x1 < 0 then
    some (0, zp)
  else
    if x1 ≤ zp then
      some (1, x1)
    else
      some (0, zp)
def fb_P_addText_2   (k2 : Int32 × (Nat → Int32) × Nat × Int32 → Option (Int32 × (Nat → Int32))) (zp : Int32) (ch : Nat → Int32) (x1 : Nat) (x2 : Int32) : Option (Int32 × (Nat → Int32)) :=
  Option.bind (fn_S_length x1) fun o_4 =>
  if o_4 ≤ x2 then
    some (zp, ch)
  else
    Option.bind (fn_S_charAt x1 x2) fun o_13 =>
    Option.bind (fn_P_add zp ch o_13) fun o_16 =>
    k2 (o_16.2.1, o_16.2.2, x1, x2 + 1)
def fl_P_addText_2   : Nat → Int32 × (Nat → Int32) × Nat × Int32 → Option (Int32 × (Nat → Int32)) := jv_lp (fun k z => fb_P_addText_2   k z.1 z.2.1 z.2.2.1 z.2.2.2)
def fn_P_addText  (zp : Int32) (ch : Nat → Int32) (x1 : Nat) : Option (Int32 × (Nat → Int32)) :=
  fl_P_addText_2 4000 (zp, ch, x1, 0)
def fb_P_addIndent_2   (k2 : Int32 × (Nat → Int32) × Int32 × Int32 → Option (Int32 × (Nat → Int32))) (zp : Int32) (ch : Nat → Int32) (x1 : Int32) (x2 : Int32) : Option (Int32 × (Nat → Int32)) :=
  if x1 ≤ x2 then
    some (zp, ch)
  else
    Option.bind (fn_P_addText zp ch 1) fun o_10 =>
    k2 (o_10.1, o_10.2, x1, x2 + 1)
def fl_P_addIndent_2   : Nat → Int32 × (Nat → Int32) × Int32 × Int32 → Option (Int32 × (Nat → Int32)) := jv_lp (fun k z => fb_P_addIndent_2   k z.1 z.2.1 z.2.2.1 z.2.2.2)
def fn_P_addIndent  (zp : Int32) (ch : Nat → Int32) (x1 : Int32) : Option (Int32 × (Nat → Int32)) :=
  fl_P_addIndent_2 4000 (zp, ch, x1, 0)
def fb_P_addNumber_19   (zp : Int32) (ch : Nat → Int32) (x1 : Int32) : Option (Int32 × (Nat → Int32)) :=
  Option.bind (fn_P_add zp ch (((48 + (x1 - x1 / 10 * 10)).toUInt32 % 65536).toInt32)) fun o_28 =>
  some (o_28.2.1, o_28.2.2)
def fn_P_addNumber  (zp : Int32) (ch : Nat → Int32) (x1 : Int32) : Option (Int32 × (Nat → Int32)) :=
  if x1 < 10 then
    fb_P_addNumber_19 zp ch x1
  else
    Option.bind (fn_P_add zp ch (((48 + (x1 / 10)).toUInt32 % 65536).toInt32)) fun o_15 =>
    fb_P_addNumber_19 o_15.2.1 o_15.2.2 x1
def fn_P_cursor (zp : Int32)   : Option (Int32 × Int32 × Int32) :=
  Option.bind (fn_C_init zp) fun o_12 =>
  some (o_12.1, o_12.2.1, o_12.2.2)
def fn_E_init    : Option (Int32) :=
  some 0
def fn_W_init    : Option (Unit) :=
  some ()
def fn_W_verdictOf   (x0 : Int32) : Option (Nat) :=
  if x0 = 1 then
    some 4
  else
    if x0 = 3 then
      some 4
    else
      if x0 = 5 then
        some 4
      else
        some 3
def fn_W_directiveOf   (x0 : Int32) : Option (Nat) :=
  if x0 = 2 then
    some 6
  else
    if x0 = 3 then
      some 7
    else
      some 10
def fn_R_init    : Option (Int32 × Int32 × Int32 × (Nat → Int32) × (Nat → Int32) × (Nat → Int32) × (Nat → Int64)) :=
  some (0, (-1), 0, fun _ => 0, fun _ => 0, fun _ => 0, fun _ => 0)
def fn_R_removeAll  (ct : Int32) (lo : Int32) (oc : Int32)  : Option (Int32 × Int32 × Int32) :=
  some (0, (-1), 0)
def fn_R_size (ct : Int32)   : Option (Int32) :=
  some ct
def fn_R_has (ct : Int32)  (x1 : Int32) : Option (Int32) :=
  if x1 < 0 then
    some 0
  else
    if ct ≤ x1 then
      some 0
    else
      some 1
def fn_R_isTest (ct : Int32) (kd : Nat → Int32)  (x1 : Int32) : Option (Int32) :=
  Option.bind (fn_R_has ct x1) fun o_2 =>
  if o_2 = 0 then
    some 0
  else
    jv_gd (jv_ig x1 24) <|
    if 3 < (kd x1.toNatClampNeg) then
      some 0
    else
      some 1
def fn_R_kindOf (ct : Int32) (kd : Nat → Int32)  (x1 : Int32) : Option (Int32) :=
  Option.bind (fn_R_has ct x1) fun o_2 =>
  if o_2 = 0 then
    some (-1)
  else
    jv_gd (jv_ig x1 24) <|
    some (kd x1.toNatClampNeg)
def fn_R_depthOf (ct : Int32) (dp : Nat → Int32)  (x1 : Int32) : Option (Int32) :=
  Option.bind (fn_R_has ct x1) fun o_2 =>
  if o_2 = 0 then
    some (-1)
  else
    jv_gd (jv_ig x1 24) <|
    some (dp x1.toNatClampNeg)
def fn_R_suiteOf (ct : Int32) (su : Nat → Int32)  (x1 : Int32) : Option (Int32) :=
  Option.bind (fn_R_has ct x1) fun o_2 =>
  if o_2 = 0 then
    some (-1)
  else
    jv_gd (jv_ig x1 24) <|
    some (su x1.toNatClampNeg)
def fn_R_nameOf (ct : Int32) (nm : Nat → Int64)  (x1 : Int32) : Option (Int64) :=
  Option.bind (fn_R_has ct x1) fun o_2 =>
  if o_2 = 0 then
    some 0
  else
    jv_gd (jv_ig x1 24) <|
    some (nm x1.toNatClampNeg)
def fn_R_innermost (lo : Int32)   : Option (Int32) :=
  some lo
def fn_R_openSuites (oc : Int32)   : Option (Int32) :=
  some oc
def fn_R_rowDepth (ct : Int32) (dp : Nat → Int32)  (x1 : Int32) : Option (Int32) :=
  Option.bind (fn_R_has ct x1) fun o_2 =>
  if o_2 = 0 then
    some 0
  else
    jv_gd (jv_ig x1 24) <|
    some ((dp x1.toNatClampNeg) + 1)
def fb_R_addNode_26   (ct : Int32) (lo : Int32) (oc : Int32) (kd : Nat → Int32) (dp : Nat → Int32) (su : Nat → Int32) (nm : Nat → Int64) (x1 : Int32) (x2 : Int64) : Option (Int32 × Int32 × Int32 × Int32 × (Nat → Int32) × (Nat → Int32) × (Nat → Int32) × (Nat → Int64)) :=
  jv_gd (jv_ig ct 24) <|
  jv_gd (jv_ig ct 24) <|
  jv_gd (jv_ig ct 24) <|
  jv_gd (jv_ig ct 24) <|
  if x1 = 6 then
    some (ct, ct + 1, ct, oc + 1, upd kd ct.toNatClampNeg x1, upd dp ct.toNatClampNeg oc, upd su ct.toNatClampNeg lo, vp_updL nm ct.toNatClampNeg x2)
  else
    some (ct, ct + 1, lo, oc, upd kd ct.toNatClampNeg x1, upd dp ct.toNatClampNeg oc, upd su ct.toNatClampNeg lo, vp_updL nm ct.toNatClampNeg x2)
def fn_R_addNode  (ct : Int32) (lo : Int32) (oc : Int32) (kd : Nat → Int32) (dp : Nat → Int32) (su : Nat → Int32) (nm : Nat → Int64) (x1 : Int32) (x2 : Int64) : Option (Int32 × Int32 × Int32 × Int32 × (Nat → Int32) × (Nat → Int32) × (Nat → Int32) × (Nat → Int64)) :=
  if 24 ≤ ct then
    some ((-2), ct, lo, oc, kd, dp, su, nm)
  else
    if x1 = 6 then
      if oc < 3 then
        fb_R_addNode_26 ct lo oc kd dp su nm x1 x2
      else
        some ((-2), ct, lo, oc, kd, dp, su, nm)
    else
      fb_R_addNode_26 ct lo oc kd dp su nm x1 x2
def fb_R_areAttempts_46 (ct : Int32) (kd : Nat → Int32) (dp : Nat → Int32) (su : Nat → Int32) (nm : Nat → Int64)  (k46 : Int32 × Int32 × Int32 → Option (Int32)) (x3 : Int32) (x4 : Int32) (x5 : Int32) : Option (Int32) :=
  if x5 < 0 then
    some 1
  else
    Option.bind (fn_R_nameOf ct nm x3) fun o_53 =>
    Option.bind (fn_R_nameOf ct nm x4) fun o_59 =>
    if (lg_cmp o_53 o_59) = 0 then
      Option.bind (fn_R_suiteOf ct su x3) fun o_70 =>
      Option.bind (fn_R_suiteOf ct su x4) fun o_77 =>
      k46 (o_70, o_77, x5 + (-1))
    else
      some 0
def fl_R_areAttempts_46 (ct : Int32) (kd : Nat → Int32) (dp : Nat → Int32) (su : Nat → Int32) (nm : Nat → Int64)  : Nat → Int32 × Int32 × Int32 → Option (Int32) := jv_lp (fun k z => fb_R_areAttempts_46 ct kd dp su nm  k z.1 z.2.1 z.2.2)
def fn_R_areAttempts (ct : Int32) (kd : Nat → Int32) (dp : Nat → Int32) (su : Nat → Int32) (nm : Nat → Int64)  (x1 : Int32) (x2 : Int32) : Option (Int32) :=
  Option.bind (fn_R_isTest ct kd x1) fun o_2 =>
  if o_2 = 0 then
    some 0
  else
    Option.bind (fn_R_isTest ct kd x2) fun o_10 =>
    if o_10 = 0 then
      some 0
    else
      jv_gd (jv_ig x1 24) <|
      jv_gd (jv_ig x2 24) <|
      if (dp x1.toNatClampNeg) = (dp x2.toNatClampNeg) then
        jv_gd (jv_ig x1 24) <|
        fl_R_areAttempts_46 ct kd dp su nm 4000 (x1, x2, dp x1.toNatClampNeg)
      else
        some 0
def fb_R_hasFailedBehind_4 (ct : Int32) (kd : Nat → Int32)  (k4 : Int32 → Option (Int32)) (x2 : Int32) : Option (Int32) :=
  if ct ≤ x2 then
    some 0
  else
    jv_gd (jv_ig x2 24) <|
    if (kd x2.toNatClampNeg) = 1 then
      some 1
    else
      k4 (x2 + 1)
def fl_R_hasFailedBehind_4 (ct : Int32) (kd : Nat → Int32)  : Nat → Int32 → Option (Int32) := jv_lp (fun k z => fb_R_hasFailedBehind_4 ct kd  k z)
def fn_R_hasFailedBehind (ct : Int32) (kd : Nat → Int32)  (x1 : Int32) : Option (Int32) :=
  fl_R_hasFailedBehind_4 ct kd 4000 (x1 + 1)
def fb_R_countInRow_5 (ct : Int32) (su : Nat → Int32)  (k5 : Int32 × Int32 × Int32 × Int32 → Option (Int32)) (x1 : Int32) (x2 : Int32) (x3 : Int32) (x4 : Int32) : Option (Int32) :=
  if x2 ≤ x4 then
    some x3
  else
    if ct ≤ x4 then
      some x3
    else
      jv_gd (jv_ig x4 24) <|
      if (su x4.toNatClampNeg) = x1 then
        k5 (x1, x2, x3 + 1, x4 + 1)
      else
        k5 (x1, x2, x3, x4 + 1)
def fl_R_countInRow_5 (ct : Int32) (su : Nat → Int32)  : Nat → Int32 × Int32 × Int32 × Int32 → Option (Int32) := jv_lp (fun k z => fb_R_countInRow_5 ct su  k z.1 z.2.1 z.2.2.1 z.2.2.2)
def fn_R_countInRow (ct : Int32) (su : Nat → Int32)  (x1 : Int32) (x2 : Int32) : Option (Int32) :=
  fl_R_countInRow_5 ct su 4000 (x1, x2, 0, 0)
def fn_V_init    : Option (Int64 × Int32 × (Nat → Int32) × Int32 × Int32 × Int32 × (Nat → Int32) × (Nat → Int32) × (Nat → Int32) × (Nat → Int64) × Int32 × Int32 × Int32 × (Nat → Int32) × (Nat → Int32) × (Nat → Int32) × (Nat → Int64)) :=
  Option.bind (fn_P_init ) fun o_9 =>
  Option.bind (fn_R_init ) fun o_20 =>
  Option.bind (fn_R_init ) fun o_31 =>
  some (0, o_9.1, o_9.2, o_20.1, o_20.2.1, o_20.2.2.1, o_20.2.2.2.1, o_20.2.2.2.2.1, o_20.2.2.2.2.2.1, o_20.2.2.2.2.2.2, o_31.1, o_31.2.1, o_31.2.2.1, o_31.2.2.2.1, o_31.2.2.2.2.1, o_31.2.2.2.2.2.1, o_31.2.2.2.2.2.2)
def fn_V_reset  (ct : Int32) (lo : Int32) (oc : Int32)  : Option (Int32 × Int32 × Int32) :=
  Option.bind (fn_R_removeAll ct lo oc) fun o_4 =>
  some (o_4.1, o_4.2.1, o_4.2.2)
def fn_V_nodes (ct : Int32)   : Option (Int32) :=
  Option.bind (fn_R_size ct) fun o_4 =>
  some o_4
def fn_V_kind (ct : Int32) (kd : Nat → Int32)  (x1 : Int32) : Option (Int32) :=
  Option.bind (fn_R_has ct x1) fun o_5 =>
  if o_5 = 0 then
    some (-1)
  else
    Option.bind (fn_R_kindOf ct kd x1) fun o_16 =>
    some o_16
def fn_V_depth (ct : Int32) (dp : Nat → Int32)  (x1 : Int32) : Option (Int32) :=
  Option.bind (fn_R_has ct x1) fun o_5 =>
  if o_5 = 0 then
    some (-1)
  else
    Option.bind (fn_R_depthOf ct dp x1) fun o_16 =>
    some o_16
def fn_V_length (zp : Int32)   : Option (Int32) :=
  Option.bind (fn_P_size zp) fun o_4 =>
  some o_4
def fn_V_at (zp : Int32) (ch : Nat → Int32)  (x1 : Int32) : Option (Int32) :=
  Option.bind (fn_P_codeAt zp ch x1) fun o_5 =>
  some o_5
def fn_V_cut  (zp : Int32) (x1 : Int32) : Option (Int32 × Int32) :=
  Option.bind (fn_P_shorten zp x1) fun o_5 =>
  jv_gd (jv_zb o_5.1) <|
  some (o_5.1, o_5.2)
def fb_V_attempts_17 (ct : Int32) (kd : Nat → Int32) (dp : Nat → Int32) (su : Nat → Int32) (nm : Nat → Int64)  (k17 : Int32 × Int32 × Int32 → Option (Int32)) (x1 : Int32) (x2 : Int32) (x3 : Int32) : Option (Int32) :=
  Option.bind (fn_R_size ct) fun o_22 =>
  if o_22 ≤ x3 then
    some x2
  else
    Option.bind (fn_R_areAttempts ct kd dp su nm x1 x3) fun o_34 =>
    if o_34 = 0 then
      k17 (x1, x2, x3 + 1)
    else
      k17 (x1, x2 + 1, x3 + 1)
def fl_V_attempts_17 (ct : Int32) (kd : Nat → Int32) (dp : Nat → Int32) (su : Nat → Int32) (nm : Nat → Int64)  : Nat → Int32 × Int32 × Int32 → Option (Int32) := jv_lp (fun k z => fb_V_attempts_17 ct kd dp su nm  k z.1 z.2.1 z.2.2)
def fn_V_attempts (ct : Int32) (kd : Nat → Int32) (dp : Nat → Int32) (su : Nat → Int32) (nm : Nat → Int64)  (x1 : Int32) : Option (Int32) :=
  Option.bind (fn_R_isTest ct kd x1) fun o_5 =>
  if o_5 = 0 then
    some (-1)
  else
    fl_V_attempts_17 ct kd dp su nm 4000 (x1, 0, 0)
def fb_V_flaky_48 (ct : Int32) (kd : Nat → Int32) (dp : Nat → Int32) (su : Nat → Int32) (nm : Nat → Int64) (k4 : Int32 × Int32 × Int32 → Option (Int32)) (x1 : Int32) (x2 : Int32) (x3 : Int32) (x4 : Int32) : Option (Int32) :=
  if x2 = 0 then
    if x4 = 1 then
      k4 (x1, 1, x3 + 1)
    else
      k4 (x1, 0, x3 + 1)
  else
    k4 (x1, 1, x3 + 1)
def fb_V_flaky_4 (ct : Int32) (kd : Nat → Int32) (dp : Nat → Int32) (su : Nat → Int32) (nm : Nat → Int64)  (k4 : Int32 × Int32 × Int32 → Option (Int32)) (x1 : Int32) (x2 : Int32) (x3 : Int32) : Option (Int32) :=
  Option.bind (fn_R_size ct) fun o_9 =>
  if o_9 ≤ x3 then
    some 0
  else
    Option.bind (fn_R_areAttempts ct kd dp su nm x1 x3) fun o_21 =>
    if o_21 = 0 then
      k4 (x1, x2, x3 + 1)
    else
      Option.bind (fn_R_kindOf ct kd x3) fun o_32 =>
      if x2 = 0 then
        fb_V_flaky_48 ct kd dp su nm k4 x1 x2 x3 o_32
      else
        if o_32 = 0 then
          some 1
        else
          fb_V_flaky_48 ct kd dp su nm k4 x1 x2 x3 o_32
def fl_V_flaky_4 (ct : Int32) (kd : Nat → Int32) (dp : Nat → Int32) (su : Nat → Int32) (nm : Nat → Int64)  : Nat → Int32 × Int32 × Int32 → Option (Int32) := jv_lp (fun k z => fb_V_flaky_4 ct kd dp su nm  k z.1 z.2.1 z.2.2)
def fn_V_flaky (ct : Int32) (kd : Nat → Int32) (dp : Nat → Int32) (su : Nat → Int32) (nm : Nat → Int64)  (x1 : Int32) : Option (Int32) :=
  fl_V_flaky_4 ct kd dp su nm 4000 (x1, 0, 0)
def fn_V_addWithBegunName  (bn : Int64) (ct : Int32) (lo : Int32) (oc : Int32) (kd : Nat → Int32) (dp : Nat → Int32) (su : Nat → Int32) (nm : Nat → Int64) (x1 : Int32) : Option (Int32 × Int64 × Int32 × Int32 × Int32 × (Nat → Int32) × (Nat → Int32) × (Nat → Int32) × (Nat → Int64)) :=
  Option.bind (fn_R_addNode ct lo oc kd dp su nm x1 bn) fun o_9 =>
  if o_9.1 < 0 then
    some (o_9.1, bn, o_9.2.1, o_9.2.2.1, o_9.2.2.2.1, o_9.2.2.2.2.1, o_9.2.2.2.2.2.1, o_9.2.2.2.2.2.2.1, o_9.2.2.2.2.2.2.2)
  else
    some (o_9.1, 0, o_9.2.1, o_9.2.2.1, o_9.2.2.2.1, o_9.2.2.2.2.1, o_9.2.2.2.2.2.1, o_9.2.2.2.2.2.2.1, o_9.2.2.2.2.2.2.2)
def fn_V_isPlain   (x0 : Int32) : Option (Int32) :=
  if x0 < 32 then
    some 0
  else
    if 126 < x0 then
      some 0
    else
      some 1
def fn_V_isOfPages   (x0 : Int32) : Option (Int32) :=
  if x0 = 10 then
    some 1
  else
    Option.bind (fn_V_isPlain x0) fun o_7 =>
    if o_7 = 0 then
      some 0
    else
      some 1
def fn_M_init    : Option (Int32 × Int32 × Int32 × Int32 × Int32 × Int32 × Int32 × Int32 × (Nat → Int32) × (Nat → Int32) × (Nat → Int32) × (Nat → Int32) × (Nat → Int32) × (Nat → Int32) × (Nat → Int32) × (Nat → Int32) × (Nat → Int32)) :=
  some (0, 0, 0, 0, 0, 0, 0, 0, fun _ => 0, fun _ => 0, fun _ => 0, fun _ => 0, fun _ => 0, fun _ => 0, fun _ => 0, fun _ => 0, fun _ => 0)
def fn_M_part   (x0 : Int32) (x1 : Int32) : Option (Int64) :=
  if x0 = 0 then
    if x1 = 0 then
      some 8318823019729404244
    else
      some 57385602150249
  else
  if x0 = 1 then
    if x1 = 0 then
      some 2124655
    else
      some 0
  else
  if x0 = 2 then
    if x1 = 0 then
      some 9125324284784494
    else
      some 0
  else
  if x0 = 3 then
    if x1 = 0 then
      some 2108704
    else
      some 0
  else
  if x0 = 4 then
    if x1 = 0 then
      some 22598586002842400
    else
      some 0
  else
  if x0 = 5 then
    if x1 = 0 then
      some 22311630664639264
    else
      some 0
  else
  if x0 = 6 then
    if x1 = 0 then
      some 8315180253233487907
    else
      some 2112116
  else
  if x0 = 7 then
    if x1 = 0 then
      some 3026481
    else
      some 0
  else
  if x0 = 8 then
    if x1 = 0 then
      some 8391735665723269442
    else
      some 33
  else
    some 0
def fn_M_letterOf   (x0 : Int32) (x1 : Int32) : Option (Int32) :=
  Option.bind (fn_M_part x0 (x1 / 8)) fun o_5 =>
  if x1 ≤ 15 then
    some (((((o_5 >>> ((8 * (x1 - x1 / 8 * 8)).toInt64 &&& 63)) &&& 255).toInt32).toUInt32 % 65536).toInt32)
  else
    some 0
def fn_M_letter  (bg : Int32) (na : Nat → Int32) (x1 : Int32) : Option (Int32 × Int32 × (Nat → Int32)) :=
  if x1 < 32 then
    some (0, bg, na)
  else
    if 126 < x1 then
      some (0, bg, na)
    else
      if bg = 6 then
        some (0, bg, na)
      else
        jv_gd (jv_ig bg 6) <|
        some (1, bg + 1, upd na bg.toNatClampNeg (vp_nar .char x1))
def fb_M_innermost_4 (cu : Nat → Int32) (re : Nat → Int32) (cl : Nat → Int32)  (k4 : Int32 × Int32 × Int32 → Option (Int32)) (x1 : Int32) (x2 : Int32) (x3 : Int32) : Option (Int32) :=
  jv_gd (jv_ig x1 2) <|
  if (cu x1.toNatClampNeg) ≤ x3 then
    some x2
  else
    jv_gd (jv_ig ((24 * x1) + x3) 48) <|
    if (re ((24 * x1) + x3).toNatClampNeg) = 4 then
      jv_gd (jv_ig ((24 * x1) + x3) 48) <|
      if (cl ((24 * x1) + x3).toNatClampNeg) = 0 then
        k4 (x1, x3, x3 + 1)
      else
        k4 (x1, x2, x3 + 1)
    else
      k4 (x1, x2, x3 + 1)
def fl_M_innermost_4 (cu : Nat → Int32) (re : Nat → Int32) (cl : Nat → Int32)  : Nat → Int32 × Int32 × Int32 → Option (Int32) := jv_lp (fun k z => fb_M_innermost_4 cu re cl  k z.1 z.2.1 z.2.2)
def fn_M_innermost (cu : Nat → Int32) (re : Nat → Int32) (cl : Nat → Int32)  (x1 : Int32) : Option (Int32) :=
  fl_M_innermost_4 cu re cl 4000 (x1, (-1), 0)
def fb_M_depthOf_15 (pa : Nat → Int32)  (k15 : Int32 × Int32 × Int32 → Option (Int32)) (x1 : Int32) (x3 : Int32) (x4 : Int32) : Option (Int32) :=
  if x4 < 0 then
    some x3
  else
    jv_gd (jv_ig ((24 * x1) + x4) 48) <|
    k15 (x1, x3 + 1, pa ((24 * x1) + x4).toNatClampNeg)
def fl_M_depthOf_15 (pa : Nat → Int32)  : Nat → Int32 × Int32 × Int32 → Option (Int32) := jv_lp (fun k z => fb_M_depthOf_15 pa  k z.1 z.2.1 z.2.2)
def fn_M_depthOf (pa : Nat → Int32)  (x1 : Int32) (x2 : Int32) : Option (Int32) :=
  jv_gd (jv_ig ((24 * x1) + x2) 48) <|
  fl_M_depthOf_15 pa 4000 (x1, 0, pa ((24 * x1) + x2).toNatClampNeg)
def fn_M_grow  (cu : Nat → Int32) (pa : Nat → Int32) (re : Nat → Int32) (cl : Nat → Int32) (si : Nat → Int32) (x1 : Int32) (x2 : Int32) : Option (Int32 × (Nat → Int32) × (Nat → Int32) × (Nat → Int32) × (Nat → Int32) × (Nat → Int32)) :=
  jv_gd (jv_ig x1 2) <|
  Option.bind (fn_M_innermost cu re cl x1) fun o_9 =>
  jv_gd (jv_ig ((24 * x1) + (cu x1.toNatClampNeg)) 48) <|
  jv_gd (jv_ig ((24 * x1) + (cu x1.toNatClampNeg)) 48) <|
  jv_gd (jv_ig ((24 * x1) + (cu x1.toNatClampNeg)) 48) <|
  jv_gd (jv_ig ((24 * x1) + (cu x1.toNatClampNeg)) 48) <|
  jv_gd (jv_ig x1 2) <|
  jv_gd (jv_ig x1 2) <|
  some (cu x1.toNatClampNeg, upd cu x1.toNatClampNeg ((cu x1.toNatClampNeg) + 1), upd pa ((24 * x1) + (cu x1.toNatClampNeg)).toNatClampNeg o_9, upd re ((24 * x1) + (cu x1.toNatClampNeg)).toNatClampNeg x2, upd cl ((24 * x1) + (cu x1.toNatClampNeg)).toNatClampNeg (vp_nar .boolean 0), upd si ((24 * x1) + (cu x1.toNatClampNeg)).toNatClampNeg 0)
def fb_M_addNamed_9 (na : Nat → Int32)  (k9 : Int32 × (Nat → Int32) × (Nat → Int32) × (Nat → Int32) × (Nat → Int32) × (Nat → Int32) × (Nat → Int32) × Int32 × Int32 → Option (Int32 × Int32 × (Nat → Int32) × (Nat → Int32) × (Nat → Int32) × (Nat → Int32) × (Nat → Int32) × (Nat → Int32))) (bg : Int32) (cu : Nat → Int32) (pa : Nat → Int32) (re : Nat → Int32) (cl : Nat → Int32) (si : Nat → Int32) (lt : Nat → Int32) (x2 : Int32) (x3 : Int32) : Option (Int32 × Int32 × (Nat → Int32) × (Nat → Int32) × (Nat → Int32) × (Nat → Int32) × (Nat → Int32) × (Nat → Int32)) :=
  if bg ≤ x3 then
    jv_gd (jv_ig x2 48) <|
    some (x2, 0, cu, pa, re, cl, upd si x2.toNatClampNeg bg, lt)
  else
    jv_gd (jv_ig x3 6) <|
    jv_gd (jv_ig ((6 * x2) + x3) 288) <|
    k9 (bg, cu, pa, re, cl, si, upd lt ((6 * x2) + x3).toNatClampNeg (vp_nar .char (na x3.toNatClampNeg)), x2, x3 + 1)
def fl_M_addNamed_9 (na : Nat → Int32)  : Nat → Int32 × (Nat → Int32) × (Nat → Int32) × (Nat → Int32) × (Nat → Int32) × (Nat → Int32) × (Nat → Int32) × Int32 × Int32 → Option (Int32 × Int32 × (Nat → Int32) × (Nat → Int32) × (Nat → Int32) × (Nat → Int32) × (Nat → Int32) × (Nat → Int32)) := jv_lp (fun k z => fb_M_addNamed_9 na  k z.1 z.2.1 z.2.2.1 z.2.2.2.1 z.2.2.2.2.1 z.2.2.2.2.2.1 z.2.2.2.2.2.2.1 z.2.2.2.2.2.2.2.1 z.2.2.2.2.2.2.2.2)
def fn_M_addNamed (na : Nat → Int32) (bg : Int32) (cu : Nat → Int32) (pa : Nat → Int32) (re : Nat → Int32) (cl : Nat → Int32) (si : Nat → Int32) (lt : Nat → Int32) (x1 : Int32) : Option (Int32 × Int32 × (Nat → Int32) × (Nat → Int32) × (Nat → Int32) × (Nat → Int32) × (Nat → Int32) × (Nat → Int32)) :=
  Option.bind (fn_M_grow cu pa re cl si 0 x1) fun o_3 =>
  fl_M_addNamed_9 na 4000 (bg, o_3.2.1, o_3.2.2.1, o_3.2.2.2.1, o_3.2.2.2.2.1, o_3.2.2.2.2.2, lt, o_3.1, 0)
def fn_M_open (na : Nat → Int32) (bg : Int32) (cu : Nat → Int32) (pa : Nat → Int32) (re : Nat → Int32) (cl : Nat → Int32) (si : Nat → Int32) (lt : Nat → Int32)  : Option (Int32 × Int32 × (Nat → Int32) × (Nat → Int32) × (Nat → Int32) × (Nat → Int32) × (Nat → Int32) × (Nat → Int32)) :=
  Option.bind (fn_M_innermost cu re cl 0) fun o_2 =>
  jv_gd (jv_ig 0 2) <|
  if (cu (0 : Int32).toNatClampNeg) = 24 then
    some ((-2), bg, cu, pa, re, cl, si, lt)
  else
    if o_2 < 0 then
      Option.bind (fn_M_addNamed na bg cu pa re cl si lt 4) fun o_36 =>
      some (o_36.1, o_36.2.1, o_36.2.2.1, o_36.2.2.2.1, o_36.2.2.2.2.1, o_36.2.2.2.2.2.1, o_36.2.2.2.2.2.2.1, o_36.2.2.2.2.2.2.2)
    else
      Option.bind (fn_M_depthOf pa 0 o_2) fun o_24 =>
      if o_24 = 2 then
        some ((-2), bg, cu, pa, re, cl, si, lt)
      else
        Option.bind (fn_M_addNamed na bg cu pa re cl si lt 4) fun o_36 =>
        some (o_36.1, o_36.2.1, o_36.2.2.1, o_36.2.2.2.1, o_36.2.2.2.2.1, o_36.2.2.2.2.2.1, o_36.2.2.2.2.2.2.1, o_36.2.2.2.2.2.2.2)
def fn_M_close (cu : Nat → Int32) (re : Nat → Int32) (cl : Nat → Int32)  : Option (Int32 × (Nat → Int32)) :=
  Option.bind (fn_M_innermost cu re cl 0) fun o_2 =>
  if 0 ≤ o_2 then
    jv_gd (jv_ig o_2 48) <|
    some (1, upd cl o_2.toNatClampNeg (vp_nar .boolean 1))
  else
    some (0, cl)
def fn_M_test (na : Nat → Int32) (bg : Int32) (cu : Nat → Int32) (pa : Nat → Int32) (re : Nat → Int32) (cl : Nat → Int32) (si : Nat → Int32) (lt : Nat → Int32) (x1 : Int32) : Option (Int32 × Int32 × (Nat → Int32) × (Nat → Int32) × (Nat → Int32) × (Nat → Int32) × (Nat → Int32) × (Nat → Int32)) :=
  if x1 < 0 then
    some ((-1), bg, cu, pa, re, cl, si, lt)
  else
    if x1 ≤ 3 then
      jv_gd (jv_ig 0 2) <|
      if (cu (0 : Int32).toNatClampNeg) = 24 then
        some ((-2), bg, cu, pa, re, cl, si, lt)
      else
        Option.bind (fn_M_addNamed na bg cu pa re cl si lt x1) fun o_29 =>
        some (o_29.1, o_29.2.1, o_29.2.2.1, o_29.2.2.2.1, o_29.2.2.2.2.1, o_29.2.2.2.2.2.1, o_29.2.2.2.2.2.2.1, o_29.2.2.2.2.2.2.2)
    else
      some ((-1), bg, cu, pa, re, cl, si, lt)
def fn_M_reset  (cu : Nat → Int32)  : Option ((Nat → Int32)) :=
  jv_gd (jv_ig 0 2) <|
  some (upd cu (0 : Int32).toNatClampNeg 0)
def fn_M_nodes (cu : Nat → Int32)   : Option (Int32) :=
  jv_gd (jv_ig 0 2) <|
  some (cu (0 : Int32).toNatClampNeg)
def fn_M_node (cu : Nat → Int32)  (x1 : Int32) : Option (Int32) :=
  if x1 < 0 then
    some 0
  else
    jv_gd (jv_ig 0 2) <|
    if (cu (0 : Int32).toNatClampNeg) ≤ x1 then
      some 0
    else
      some 1
def fb_M_good_56 (cu : Nat → Int32) (pa : Nat → Int32) (re : Nat → Int32) (k7 : Int32 × Int32 × Int32 × Int32 → Option (Int32)) (k35 : Int32 × Int32 × Int32 × Int32 × Int32 × Int32 → Option (Int32)) (x1 : Int32) (x2 : Int32) (x3 : Int32) (x4 : Int32) (x6 : Int32) (y0 : Int32) : Option (Int32) :=
  jv_gd (jv_ig ((24 * x1) + x6) 48) <|
  k35 (x1, x2, x3, x4, y0, pa ((24 * x1) + x6).toNatClampNeg)
def fb_M_good_35 (cu : Nat → Int32) (pa : Nat → Int32) (re : Nat → Int32) (k7 : Int32 × Int32 × Int32 × Int32 → Option (Int32)) (k35 : Int32 × Int32 × Int32 × Int32 × Int32 × Int32 → Option (Int32)) (x1 : Int32) (x2 : Int32) (x3 : Int32) (x4 : Int32) (x5 : Int32) (x6 : Int32) : Option (Int32) :=
  if x6 < 0 then
    if x3 = 0 then
      k7 (x1, x2, 0, x4 + 1)
    else
      if x5 = 0 then
        k7 (x1, x2, 1, x4 + 1)
      else
        jv_gd (jv_ig ((24 * x1) + x4) 48) <|
        if (re ((24 * x1) + x4).toNatClampNeg) = 1 then
          k7 (x1, x2, 0, x4 + 1)
        else
          k7 (x1, x2, 1, x4 + 1)
  else
    if x5 = 0 then
      if x6 = x2 then
        fb_M_good_56 cu pa re k7 k35 x1 x2 x3 x4 x6 1
      else
        fb_M_good_56 cu pa re k7 k35 x1 x2 x3 x4 x6 0
    else
      fb_M_good_56 cu pa re k7 k35 x1 x2 x3 x4 x6 1
def fl_M_good_35 (cu : Nat → Int32) (pa : Nat → Int32) (re : Nat → Int32) (k7 : Int32 × Int32 × Int32 × Int32 → Option (Int32)) : Nat → Int32 × Int32 × Int32 × Int32 × Int32 × Int32 → Option (Int32) := jv_lp (fun k z => fb_M_good_35 cu pa re k7 k z.1 z.2.1 z.2.2.1 z.2.2.2.1 z.2.2.2.2.1 z.2.2.2.2.2)
def fb_M_good_7 (cu : Nat → Int32) (pa : Nat → Int32) (re : Nat → Int32)  (k7 : Int32 × Int32 × Int32 × Int32 → Option (Int32)) (x1 : Int32) (x2 : Int32) (x3 : Int32) (x4 : Int32) : Option (Int32) :=
  jv_gd (jv_ig x1 2) <|
  if (cu x1.toNatClampNeg) ≤ x4 then
    jv_gd (jv_zb x3) <|
    some x3
  else
    jv_gd (jv_ig ((24 * x1) + x4) 48) <|
    fl_M_good_35 cu pa re k7 4000 (x1, x2, x3, x4, 0, pa ((24 * x1) + x4).toNatClampNeg)
def fl_M_good_7 (cu : Nat → Int32) (pa : Nat → Int32) (re : Nat → Int32)  : Nat → Int32 × Int32 × Int32 × Int32 → Option (Int32) := jv_lp (fun k z => fb_M_good_7 cu pa re  k z.1 z.2.1 z.2.2.1 z.2.2.2)
def fn_M_good (cu : Nat → Int32) (pa : Nat → Int32) (re : Nat → Int32)  (x1 : Int32) (x2 : Int32) : Option (Int32) :=
  fl_M_good_7 cu pa re 4000 (x1, x2, 1, x2 + 1)
def fn_M_kind (cu : Nat → Int32) (pa : Nat → Int32) (re : Nat → Int32) (cl : Nat → Int32)  (x1 : Int32) : Option (Int32) :=
  Option.bind (fn_M_node cu x1) fun o_2 =>
  if o_2 = 0 then
    some (-1)
  else
    jv_gd (jv_ig x1 48) <|
    if 4 ≤ (re x1.toNatClampNeg) then
      jv_gd (jv_ig x1 48) <|
      if (cl x1.toNatClampNeg) = 0 then
        some 6
      else
        Option.bind (fn_M_good cu pa re 0 x1) fun o_46 =>
        if o_46 = 0 then
          some 5
        else
          some 4
    else
      jv_gd (jv_ig x1 48) <|
      some (re x1.toNatClampNeg)
def fn_M_depth (cu : Nat → Int32) (pa : Nat → Int32)  (x1 : Int32) : Option (Int32) :=
  Option.bind (fn_M_node cu x1) fun o_2 =>
  if o_2 = 0 then
    some (-1)
  else
    Option.bind (fn_M_depthOf pa 0 x1) fun o_11 =>
    some o_11
def fn_M_name (cu : Nat → Int32) (si : Nat → Int32) (lt : Nat → Int32)  (x1 : Int32) (x2 : Int32) : Option (Int32) :=
  Option.bind (fn_M_node cu x1) fun o_2 =>
  if o_2 = 0 then
    some (-1)
  else
    if x2 < 0 then
      some (-1)
    else
      jv_gd (jv_ig x1 48) <|
      if (si x1.toNatClampNeg) ≤ x2 then
        some (-1)
      else
        jv_gd (jv_ig ((6 * x1) + x2) 288) <|
        some (lt ((6 * x1) + x2).toNatClampNeg)
def fb_M_placeOf_5 (pa : Nat → Int32)  (k5 : Int32 × Int32 × Int32 × Int32 → Option (Int32)) (x1 : Int32) (x2 : Int32) (x3 : Int32) (x4 : Int32) : Option (Int32) :=
  if x2 < x4 then
    some x3
  else
    jv_gd (jv_ig ((24 * x1) + x4) 48) <|
    jv_gd (jv_ig ((24 * x1) + x2) 48) <|
    if (pa ((24 * x1) + x4).toNatClampNeg) = (pa ((24 * x1) + x2).toNatClampNeg) then
      k5 (x1, x2, x3 + 1, x4 + 1)
    else
      k5 (x1, x2, x3 + 0, x4 + 1)
def fl_M_placeOf_5 (pa : Nat → Int32)  : Nat → Int32 × Int32 × Int32 × Int32 → Option (Int32) := jv_lp (fun k z => fb_M_placeOf_5 pa  k z.1 z.2.1 z.2.2.1 z.2.2.2)
def fn_M_placeOf (pa : Nat → Int32)  (x1 : Int32) (x2 : Int32) : Option (Int32) :=
  fl_M_placeOf_5 pa 4000 (x1, x2, 0, 0)
def fb_M_rowSize_5 (cu : Nat → Int32) (pa : Nat → Int32)  (k5 : Int32 × Int32 × Int32 × Int32 → Option (Int32)) (x1 : Int32) (x2 : Int32) (x3 : Int32) (x4 : Int32) : Option (Int32) :=
  jv_gd (jv_ig x1 2) <|
  if (cu x1.toNatClampNeg) ≤ x4 then
    some x3
  else
    jv_gd (jv_ig ((24 * x1) + x4) 48) <|
    if (pa ((24 * x1) + x4).toNatClampNeg) = x2 then
      k5 (x1, x2, x3 + 1, x4 + 1)
    else
      k5 (x1, x2, x3 + 0, x4 + 1)
def fl_M_rowSize_5 (cu : Nat → Int32) (pa : Nat → Int32)  : Nat → Int32 × Int32 × Int32 × Int32 → Option (Int32) := jv_lp (fun k z => fb_M_rowSize_5 cu pa  k z.1 z.2.1 z.2.2.1 z.2.2.2)
def fn_M_rowSize (cu : Nat → Int32) (pa : Nat → Int32)  (x1 : Int32) (x2 : Int32) : Option (Int32) :=
  fl_M_rowSize_5 cu pa 4000 (x1, x2, 0, 0)
def fn_M_add  (ln : Int32) (pg : Nat → Int32) (x1 : Int32) : Option (Int32 × (Nat → Int32)) :=
  jv_gd (jv_ig ln 3000) <|
  some (ln + 1, upd pg ln.toNatClampNeg (vp_nar .char x1))
def fb_M_addText_2   (k2 : Int32 × (Nat → Int32) × Int32 × Int32 → Option (Int32 × (Nat → Int32))) (ln : Int32) (pg : Nat → Int32) (x1 : Int32) (x2 : Int32) : Option (Int32 × (Nat → Int32)) :=
  Option.bind (fn_M_letterOf x1 x2) fun o_4 =>
  if o_4 = 0 then
    some (ln, pg)
  else
    Option.bind (fn_M_letterOf x1 x2) fun o_13 =>
    Option.bind (fn_M_add ln pg o_13) fun o_16 =>
    k2 (o_16.1, o_16.2, x1, x2 + 1)
def fl_M_addText_2   : Nat → Int32 × (Nat → Int32) × Int32 × Int32 → Option (Int32 × (Nat → Int32)) := jv_lp (fun k z => fb_M_addText_2   k z.1 z.2.1 z.2.2.1 z.2.2.2)
def fn_M_addText  (ln : Int32) (pg : Nat → Int32) (x1 : Int32) : Option (Int32 × (Nat → Int32)) :=
  fl_M_addText_2 4000 (ln, pg, x1, 0)
def fb_M_addSpaces_2   (k2 : Int32 × (Nat → Int32) × Int32 × Int32 → Option (Int32 × (Nat → Int32))) (ln : Int32) (pg : Nat → Int32) (x1 : Int32) (x2 : Int32) : Option (Int32 × (Nat → Int32)) :=
  if (4 * x1) ≤ x2 then
    some (ln, pg)
  else
    Option.bind (fn_M_add ln pg 32) fun o_12 =>
    k2 (o_12.1, o_12.2, x1, x2 + 1)
def fl_M_addSpaces_2   : Nat → Int32 × (Nat → Int32) × Int32 × Int32 → Option (Int32 × (Nat → Int32)) := jv_lp (fun k z => fb_M_addSpaces_2   k z.1 z.2.1 z.2.2.1 z.2.2.2)
def fn_M_addSpaces  (ln : Int32) (pg : Nat → Int32) (x1 : Int32) : Option (Int32 × (Nat → Int32)) :=
  fl_M_addSpaces_2 4000 (ln, pg, x1, 0)
def fb_M_addNumber_18   (ln : Int32) (pg : Nat → Int32) (x1 : Int32) : Option (Int32 × (Nat → Int32)) :=
  Option.bind (fn_M_add ln pg (((48 + (x1 - x1 / 10 * 10)).toUInt32 % 65536).toInt32)) fun o_27 =>
  some (o_27.1, o_27.2)
def fn_M_addNumber  (ln : Int32) (pg : Nat → Int32) (x1 : Int32) : Option (Int32 × (Nat → Int32)) :=
  if x1 ≤ 9 then
    fb_M_addNumber_18 ln pg x1
  else
    Option.bind (fn_M_add ln pg (((48 + (x1 / 10)).toUInt32 % 65536).toInt32)) fun o_15 =>
    fb_M_addNumber_18 o_15.1 o_15.2 x1
def fb_M_addName_36 (si : Nat → Int32) (lt : Nat → Int32) (k2 : Int32 × (Nat → Int32) × Int32 × Int32 → Option (Int32 × (Nat → Int32))) (ln : Int32) (pg : Nat → Int32) (x1 : Int32) (x2 : Int32) (x3 : Int32) : Option (Int32 × (Nat → Int32)) :=
  Option.bind (fn_M_add ln pg 92) fun o_39 =>
  Option.bind (fn_M_add o_39.1 o_39.2 x3) fun o_44 =>
  k2 (o_44.1, o_44.2, x1, x2 + 1)
def fb_M_addName_2 (si : Nat → Int32) (lt : Nat → Int32)  (k2 : Int32 × (Nat → Int32) × Int32 × Int32 → Option (Int32 × (Nat → Int32))) (ln : Int32) (pg : Nat → Int32) (x1 : Int32) (x2 : Int32) : Option (Int32 × (Nat → Int32)) :=
  jv_gd (jv_ig x1 48) <|
  if (si x1.toNatClampNeg) ≤ x2 then
    some (ln, pg)
  else
    jv_gd (jv_ig ((6 * x1) + x2) 288) <|
    if (lt ((6 * x1) + x2).toNatClampNeg) = 92 then
      fb_M_addName_36 si lt k2 ln pg x1 x2 (lt ((6 * x1) + x2).toNatClampNeg)
    else
      if (lt ((6 * x1) + x2).toNatClampNeg) = 35 then
        fb_M_addName_36 si lt k2 ln pg x1 x2 (lt ((6 * x1) + x2).toNatClampNeg)
      else
        Option.bind (fn_M_add ln pg (lt ((6 * x1) + x2).toNatClampNeg)) fun o_44 =>
        k2 (o_44.1, o_44.2, x1, x2 + 1)
def fl_M_addName_2 (si : Nat → Int32) (lt : Nat → Int32)  : Nat → Int32 × (Nat → Int32) × Int32 × Int32 → Option (Int32 × (Nat → Int32)) := jv_lp (fun k z => fb_M_addName_2 si lt  k z.1 z.2.1 z.2.2.1 z.2.2.2)
def fn_M_addName (si : Nat → Int32) (lt : Nat → Int32) (ln : Int32) (pg : Nat → Int32) (x1 : Int32) : Option (Int32 × (Nat → Int32)) :=
  fl_M_addName_2 si lt 4000 (ln, pg, x1, 0)
def fb_M_addVerdict_20 (pa : Nat → Int32) (si : Nat → Int32) (lt : Nat → Int32)  (ln : Int32) (pg : Nat → Int32) (x1 : Int32) (y1 : Int32) : Option (Int32 × (Nat → Int32)) :=
  Option.bind (fn_M_addText ln pg y1) fun o_20 =>
  Option.bind (fn_M_placeOf pa 0 x1) fun o_27 =>
  Option.bind (fn_M_addNumber o_20.1 o_20.2 o_27) fun o_30 =>
  Option.bind (fn_M_addText o_30.1 o_30.2 3) fun o_35 =>
  Option.bind (fn_M_addName si lt o_35.1 o_35.2 x1) fun o_40 =>
  some (o_40.1, o_40.2)
def fn_M_addVerdict (pa : Nat → Int32) (si : Nat → Int32) (lt : Nat → Int32) (ln : Int32) (pg : Nat → Int32) (x1 : Int32) (x2 : Int32) : Option (Int32 × (Nat → Int32)) :=
  Option.bind (fn_M_depthOf pa 0 x1) fun o_4 =>
  Option.bind (fn_M_addSpaces ln pg o_4) fun o_7 =>
  if x2 = 0 then
    fb_M_addVerdict_20 pa si lt o_7.1 o_7.2 x1 2
  else
    fb_M_addVerdict_20 pa si lt o_7.1 o_7.2 x1 1
def fn_M_finish (cu : Nat → Int32) (pa : Nat → Int32) (re : Nat → Int32) (si : Nat → Int32) (lt : Nat → Int32) (ln : Int32) (pg : Nat → Int32) (x1 : Int32) : Option (Int32 × (Nat → Int32)) :=
  Option.bind (fn_M_depthOf pa 0 x1) fun o_4 =>
  Option.bind (fn_M_addSpaces ln pg (o_4 + 1)) fun o_9 =>
  Option.bind (fn_M_addText o_9.1 o_9.2 7) fun o_15 =>
  Option.bind (fn_M_rowSize cu pa 0 x1) fun o_22 =>
  Option.bind (fn_M_addNumber o_15.1 o_15.2 o_22) fun o_25 =>
  Option.bind (fn_M_add o_25.1 o_25.2 10) fun o_31 =>
  Option.bind (fn_M_good cu pa re 0 x1) fun o_39 =>
  Option.bind (fn_M_addVerdict pa si lt o_31.1 o_31.2 x1 o_39) fun o_42 =>
  Option.bind (fn_M_add o_42.1 o_42.2 10) fun o_48 =>
  some (o_48.1, o_48.2)
def fb_M_write_203 (cu : Nat → Int32) (pa : Nat → Int32) (re : Nat → Int32) (cl : Nat → Int32) (si : Nat → Int32) (lt : Nat → Int32)  (ln : Int32) (pg : Nat → Int32) : Option (Int32 × Int32 × (Nat → Int32)) :=
  Option.bind (fn_M_add ln pg 10) fun o_206 =>
  some (o_206.1, o_206.1, o_206.2)
def fb_M_write_174 (cu : Nat → Int32) (pa : Nat → Int32) (re : Nat → Int32) (cl : Nat → Int32) (si : Nat → Int32) (lt : Nat → Int32)  (ln : Int32) (pg : Nat → Int32) (x1 : Int32) : Option (Int32 × Int32 × (Nat → Int32)) :=
  if 0 ≤ x1 then
    Option.bind (fn_M_addText ln pg 8) fun o_200 =>
    fb_M_write_203 cu pa re cl si lt o_200.1 o_200.2
  else
    Option.bind (fn_M_addText ln pg 7) fun o_181 =>
    Option.bind (fn_M_rowSize cu pa 0 (-1)) fun o_188 =>
    Option.bind (fn_M_addNumber o_181.1 o_181.2 o_188) fun o_191 =>
    fb_M_write_203 cu pa re cl si lt o_191.1 o_191.2
def fb_M_write_146 (cu : Nat → Int32) (pa : Nat → Int32) (re : Nat → Int32) (cl : Nat → Int32) (si : Nat → Int32) (lt : Nat → Int32)  (k146 : Int32 × (Nat → Int32) × Int32 → Option (Int32 × Int32 × (Nat → Int32))) (ln : Int32) (pg : Nat → Int32) (x1 : Int32) : Option (Int32 × Int32 × (Nat → Int32)) :=
  if x1 < 0 then
    fb_M_write_174 cu pa re cl si lt ln pg x1
  else
    jv_gd (jv_ig x1 48) <|
    if (cl x1.toNatClampNeg) = 0 then
      fb_M_write_174 cu pa re cl si lt ln pg x1
    else
      Option.bind (fn_M_finish cu pa re si lt ln pg x1) fun o_161 =>
      jv_gd (jv_ig x1 48) <|
      k146 (o_161.1, o_161.2, pa x1.toNatClampNeg)
def fl_M_write_146 (cu : Nat → Int32) (pa : Nat → Int32) (re : Nat → Int32) (cl : Nat → Int32) (si : Nat → Int32) (lt : Nat → Int32)  : Nat → Int32 × (Nat → Int32) × Int32 → Option (Int32 × Int32 × (Nat → Int32)) := jv_lp (fun k z => fb_M_write_146 cu pa re cl si lt  k z.1 z.2.1 z.2.2)
def fb_M_write_109 (cu : Nat → Int32) (pa : Nat → Int32) (re : Nat → Int32) (cl : Nat → Int32) (si : Nat → Int32) (lt : Nat → Int32) (k20 : Int32 × (Nat → Int32) × Int32 × Int32 → Option (Int32 × Int32 × (Nat → Int32))) (ln : Int32) (pg : Nat → Int32) (x1 : Int32) (x2 : Int32) (y1 : Int32) (y2 : Int32) : Option (Int32 × Int32 × (Nat → Int32)) :=
  Option.bind (fn_M_addVerdict pa si lt ln pg y1 y2) fun o_109 =>
  jv_gd (jv_ig x2 48) <|
  if (re x2.toNatClampNeg) ≤ 1 then
    Option.bind (fn_M_add o_109.1 o_109.2 10) fun o_137 =>
    k20 (o_137.1, o_137.2, x1, x2 + 1)
  else
    jv_gd (jv_ig x2 48) <|
    Option.bind (fn_M_addText o_109.1 o_109.2 ((re x2.toNatClampNeg) + 2)) fun o_131 =>
    Option.bind (fn_M_add o_131.1 o_131.2 10) fun o_137 =>
    k20 (o_137.1, o_137.2, x1, x2 + 1)
def fb_M_write_30 (cu : Nat → Int32) (pa : Nat → Int32) (re : Nat → Int32) (cl : Nat → Int32) (si : Nat → Int32) (lt : Nat → Int32) (k20 : Int32 × (Nat → Int32) × Int32 × Int32 → Option (Int32 × Int32 × (Nat → Int32))) (k30 : Int32 × (Nat → Int32) × Int32 × Int32 → Option (Int32 × Int32 × (Nat → Int32))) (ln : Int32) (pg : Nat → Int32) (x1 : Int32) (x2 : Int32) : Option (Int32 × Int32 × (Nat → Int32)) :=
  jv_gd (jv_ig x2 48) <|
  if x1 = (pa x2.toNatClampNeg) then
    jv_gd (jv_ig x2 48) <|
    if (re x2.toNatClampNeg) = 4 then
      Option.bind (fn_M_depthOf pa 0 x2) fun o_69 =>
      Option.bind (fn_M_addSpaces ln pg o_69) fun o_72 =>
      Option.bind (fn_M_addText o_72.1 o_72.2 6) fun o_78 =>
      Option.bind (fn_M_addName si lt o_78.1 o_78.2 x2) fun o_83 =>
      Option.bind (fn_M_add o_83.1 o_83.2 10) fun o_137 =>
      k20 (o_137.1, o_137.2, x2, x2 + 1)
    else
      jv_gd (jv_ig x2 48) <|
      if ((re x2.toNatClampNeg) - (re x2.toNatClampNeg) / 2 * 2) = 0 then
        fb_M_write_109 cu pa re cl si lt k20 ln pg x1 x2 x2 1
      else
        fb_M_write_109 cu pa re cl si lt k20 ln pg x1 x2 x2 0
  else
    Option.bind (fn_M_finish cu pa re si lt ln pg x1) fun o_42 =>
    jv_gd (jv_ig x1 48) <|
    k30 (o_42.1, o_42.2, pa x1.toNatClampNeg, x2)
def fl_M_write_30 (cu : Nat → Int32) (pa : Nat → Int32) (re : Nat → Int32) (cl : Nat → Int32) (si : Nat → Int32) (lt : Nat → Int32) (k20 : Int32 × (Nat → Int32) × Int32 × Int32 → Option (Int32 × Int32 × (Nat → Int32))) : Nat → Int32 × (Nat → Int32) × Int32 × Int32 → Option (Int32 × Int32 × (Nat → Int32)) := jv_lp (fun k z => fb_M_write_30 cu pa re cl si lt k20 k z.1 z.2.1 z.2.2.1 z.2.2.2)
def fb_M_write_20 (cu : Nat → Int32) (pa : Nat → Int32) (re : Nat → Int32) (cl : Nat → Int32) (si : Nat → Int32) (lt : Nat → Int32)  (k20 : Int32 × (Nat → Int32) × Int32 × Int32 → Option (Int32 × Int32 × (Nat → Int32))) (ln : Int32) (pg : Nat → Int32) (x1 : Int32) (x2 : Int32) : Option (Int32 × Int32 × (Nat → Int32)) :=
  jv_gd (jv_ig 0 2) <|
  if (cu (0 : Int32).toNatClampNeg) ≤ x2 then
    fl_M_write_146 cu pa re cl si lt 4000 (ln, pg, x1)
  else
    fl_M_write_30 cu pa re cl si lt k20 4000 (ln, pg, x1, x2)
def fl_M_write_20 (cu : Nat → Int32) (pa : Nat → Int32) (re : Nat → Int32) (cl : Nat → Int32) (si : Nat → Int32) (lt : Nat → Int32)  : Nat → Int32 × (Nat → Int32) × Int32 × Int32 → Option (Int32 × Int32 × (Nat → Int32)) := jv_lp (fun k z => fb_M_write_20 cu pa re cl si lt  k z.1 z.2.1 z.2.2.1 z.2.2.2)
def fn_M_write (cu : Nat → Int32) (pa : Nat → Int32) (re : Nat → Int32) (cl : Nat → Int32) (si : Nat → Int32) (lt : Nat → Int32) (ln : Int32) (pg : Nat → Int32)  : Option (Int32 × Int32 × (Nat → Int32)) :=
  Option.bind (fn_M_addText 0 pg 0) fun o_7 =>
  Option.bind (fn_M_add o_7.1 o_7.2 10) fun o_13 =>
  fl_M_write_20 cu pa re cl si lt 4000 (o_13.1, o_13.2, (-1), 0)
def fb_M_eat_7 (en : Int32) (pg : Nat → Int32)  (k7 : Int32 × Int32 × Int32 × Int32 → Option (Int32 × Int32)) (mt : Int32) (x1 : Int32) (x2 : Int32) (x3 : Int32) : Option (Int32 × Int32) :=
  Option.bind (fn_M_letterOf x1 x3) fun o_9 =>
  if o_9 = 0 then
    some (1, x2)
  else
    if en ≤ x2 then
      some (0, mt)
    else
      jv_gd (jv_ig x2 3000) <|
      Option.bind (fn_M_letterOf x1 x3) fun o_31 =>
      if (pg x2.toNatClampNeg) = o_31 then
        k7 (mt, x1, x2 + 1, x3 + 1)
      else
        some (0, mt)
def fl_M_eat_7 (en : Int32) (pg : Nat → Int32)  : Nat → Int32 × Int32 × Int32 × Int32 → Option (Int32 × Int32) := jv_lp (fun k z => fb_M_eat_7 en pg  k z.1 z.2.1 z.2.2.1 z.2.2.2)
def fn_M_eat (en : Int32) (pg : Nat → Int32) (mt : Int32) (x1 : Int32) : Option (Int32 × Int32) :=
  fl_M_eat_7 en pg 4000 (mt, x1, mt, 0)
def fb_M_eatSpaces_2 (en : Int32) (pg : Nat → Int32)  (k2 : Int32 × Int32 × Int32 → Option (Int32 × Int32)) (mt : Int32) (x1 : Int32) (x2 : Int32) : Option (Int32 × Int32) :=
  if (4 * x1) ≤ x2 then
    some (1, mt)
  else
    if en ≤ mt then
      some (0, mt)
    else
      jv_gd (jv_ig mt 3000) <|
      if (pg mt.toNatClampNeg) = 32 then
        k2 (mt + 1, x1, x2 + 1)
      else
        some (0, mt)
def fl_M_eatSpaces_2 (en : Int32) (pg : Nat → Int32)  : Nat → Int32 × Int32 × Int32 → Option (Int32 × Int32) := jv_lp (fun k z => fb_M_eatSpaces_2 en pg  k z.1 z.2.1 z.2.2)
def fn_M_eatSpaces (en : Int32) (pg : Nat → Int32) (mt : Int32) (x1 : Int32) : Option (Int32 × Int32) :=
  fl_M_eatSpaces_2 en pg 4000 (mt, x1, 0)
def fn_M_eatDigit (en : Int32) (pg : Nat → Int32) (mt : Int32) (x1 : Int32) : Option (Int32 × Int32) :=
  if en ≤ mt then
    some (0, mt)
  else
    jv_gd (jv_ig mt 3000) <|
    if (pg mt.toNatClampNeg) = (48 + x1) then
      some (1, mt + 1)
    else
      some (0, mt)
def fb_M_eatNumber_17 (en : Int32) (pg : Nat → Int32)  (mt : Int32) (x1 : Int32) : Option (Int32 × Int32) :=
  Option.bind (fn_M_eatDigit en pg mt (x1 - x1 / 10 * 10)) fun o_22 =>
  if o_22.1 = 0 then
    some (0, o_22.2)
  else
    some (1, o_22.2)
def fn_M_eatNumber (en : Int32) (pg : Nat → Int32) (mt : Int32) (x1 : Int32) : Option (Int32 × Int32) :=
  if x1 < 10 then
    fb_M_eatNumber_17 en pg mt x1
  else
    Option.bind (fn_M_eatDigit en pg mt (x1 / 10)) fun o_11 =>
    if o_11.1 = 0 then
      some (0, o_11.2)
    else
      fb_M_eatNumber_17 en pg o_11.2 x1
def fb_M_eatName_94 (pg : Nat → Int32) (k5 : Int32 × Int32 × (Nat → Int32) × Int32 → Option (Int32 × Int32 × Int32 × (Nat → Int32))) (mt : Int32) (tk : Int32) (rd : Nat → Int32) (x1 : Int32) : Option (Int32 × Int32 × Int32 × (Nat → Int32)) :=
  jv_gd (jv_ig mt 3000) <|
  jv_gd (jv_ig tk 6) <|
  k5 (mt + 1, tk + 1, upd rd tk.toNatClampNeg (vp_nar .char (pg mt.toNatClampNeg)), x1)
def fb_M_eatName_5 (pg : Nat → Int32)  (k5 : Int32 × Int32 × (Nat → Int32) × Int32 → Option (Int32 × Int32 × Int32 × (Nat → Int32))) (mt : Int32) (tk : Int32) (rd : Nat → Int32) (x1 : Int32) : Option (Int32 × Int32 × Int32 × (Nat → Int32)) :=
  if x1 ≤ mt then
    if mt = x1 then
      some (1, mt, tk, rd)
    else
      some (0, mt, tk, rd)
  else
    if 6 ≤ tk then
      if mt = x1 then
        some (1, mt, tk, rd)
      else
        some (0, mt, tk, rd)
    else
      jv_gd (jv_ig mt 3000) <|
      if (pg mt.toNatClampNeg) = 35 then
        some (0, mt, tk, rd)
      else
        if (pg mt.toNatClampNeg) = 92 then
          if x1 ≤ (mt + 1) then
            some (0, mt + 1, tk, rd)
          else
            jv_gd (jv_ig (mt + 1) 3000) <|
            if (pg (mt + 1).toNatClampNeg) = 92 then
              fb_M_eatName_94 pg k5 (mt + 1) tk rd x1
            else
              jv_gd (jv_ig (mt + 1) 3000) <|
              if (pg (mt + 1).toNatClampNeg) = 35 then
                fb_M_eatName_94 pg k5 (mt + 1) tk rd x1
              else
                some (0, mt + 1, tk, rd)
        else
          fb_M_eatName_94 pg k5 mt tk rd x1
def fl_M_eatName_5 (pg : Nat → Int32)  : Nat → Int32 × Int32 × (Nat → Int32) × Int32 → Option (Int32 × Int32 × Int32 × (Nat → Int32)) := jv_lp (fun k z => fb_M_eatName_5 pg  k z.1 z.2.1 z.2.2.1 z.2.2.2)
def fn_M_eatName (pg : Nat → Int32) (mt : Int32) (tk : Int32) (rd : Nat → Int32) (x1 : Int32) : Option (Int32 × Int32 × Int32 × (Nat → Int32)) :=
  fl_M_eatName_5 pg 4000 (mt, 0, rd, x1)
def fb_M_accept_35 (tk : Int32) (rd : Nat → Int32)  (k35 : Int32 × (Nat → Int32) × (Nat → Int32) × (Nat → Int32) × (Nat → Int32) × (Nat → Int32) × (Nat → Int32) × Int32 × Int32 × Int32 → Option (Int32 × Int32 × (Nat → Int32) × (Nat → Int32) × (Nat → Int32) × (Nat → Int32) × (Nat → Int32) × (Nat → Int32))) (sx : Int32) (cu : Nat → Int32) (pa : Nat → Int32) (re : Nat → Int32) (cl : Nat → Int32) (si : Nat → Int32) (lt : Nat → Int32) (x1 : Int32) (x2 : Int32) (x3 : Int32) : Option (Int32 × Int32 × (Nat → Int32) × (Nat → Int32) × (Nat → Int32) × (Nat → Int32) × (Nat → Int32) × (Nat → Int32)) :=
  if tk ≤ x3 then
    if x1 = 4 then
      some (1, x2, cu, pa, re, cl, si, lt)
    else
      some (1, sx, cu, pa, re, cl, si, lt)
  else
    jv_gd (jv_ig x3 6) <|
    jv_gd (jv_ig ((6 * (24 + x2)) + x3) 288) <|
    k35 (sx, cu, pa, re, cl, si, upd lt ((6 * (24 + x2)) + x3).toNatClampNeg (vp_nar .char (rd x3.toNatClampNeg)), x1, x2, x3 + 1)
def fl_M_accept_35 (tk : Int32) (rd : Nat → Int32)  : Nat → Int32 × (Nat → Int32) × (Nat → Int32) × (Nat → Int32) × (Nat → Int32) × (Nat → Int32) × (Nat → Int32) × Int32 × Int32 × Int32 → Option (Int32 × Int32 × (Nat → Int32) × (Nat → Int32) × (Nat → Int32) × (Nat → Int32) × (Nat → Int32) × (Nat → Int32)) := jv_lp (fun k z => fb_M_accept_35 tk rd  k z.1 z.2.1 z.2.2.1 z.2.2.2.1 z.2.2.2.2.1 z.2.2.2.2.2.1 z.2.2.2.2.2.2.1 z.2.2.2.2.2.2.2.1 z.2.2.2.2.2.2.2.2.1 z.2.2.2.2.2.2.2.2.2)
def fn_M_accept (tk : Int32) (rd : Nat → Int32) (sx : Int32) (cu : Nat → Int32) (pa : Nat → Int32) (re : Nat → Int32) (cl : Nat → Int32) (si : Nat → Int32) (lt : Nat → Int32) (x1 : Int32) : Option (Int32 × Int32 × (Nat → Int32) × (Nat → Int32) × (Nat → Int32) × (Nat → Int32) × (Nat → Int32) × (Nat → Int32)) :=
  jv_gd (jv_ig 1 2) <|
  if (cu (1 : Int32).toNatClampNeg) = 24 then
    some (0, sx, cu, pa, re, cl, si, lt)
  else
    Option.bind (fn_M_grow cu pa re cl si 1 x1) fun o_16 =>
    jv_gd (jv_ig (24 + o_16.1) 48) <|
    fl_M_accept_35 tk rd 4000 (sx, o_16.2.1, o_16.2.2.1, o_16.2.2.2.1, o_16.2.2.2.2.1, upd o_16.2.2.2.2.2 (24 + o_16.1).toNatClampNeg tk, lt, x1, o_16.1, 0)
def fb_M_isName_24 (tk : Int32) (si : Nat → Int32) (lt : Nat → Int32) (rd : Nat → Int32)  (k24 : Int32 × Int32 × Int32 → Option (Int32)) (x1 : Int32) (x2 : Int32) (x3 : Int32) : Option (Int32) :=
  if tk ≤ x3 then
    jv_gd (jv_zb x2) <|
    some x2
  else
    if x2 = 0 then
      jv_gd (jv_zb x2) <|
      some x2
    else
      jv_gd (jv_ig ((6 * (24 + x1)) + x3) 288) <|
      jv_gd (jv_ig x3 6) <|
      if (lt ((6 * (24 + x1)) + x3).toNatClampNeg) = (rd x3.toNatClampNeg) then
        k24 (x1, 1, x3 + 1)
      else
        k24 (x1, 0, x3 + 1)
def fl_M_isName_24 (tk : Int32) (si : Nat → Int32) (lt : Nat → Int32) (rd : Nat → Int32)  : Nat → Int32 × Int32 × Int32 → Option (Int32) := jv_lp (fun k z => fb_M_isName_24 tk si lt rd  k z.1 z.2.1 z.2.2)
def fn_M_isName (tk : Int32) (si : Nat → Int32) (lt : Nat → Int32) (rd : Nat → Int32)  (x1 : Int32) : Option (Int32) :=
  jv_gd (jv_ig (24 + x1) 48) <|
  if (si (24 + x1).toNatClampNeg) = tk then
    fl_M_isName_24 tk si lt rd 4000 (x1, 1, 0)
  else
    fl_M_isName_24 tk si lt rd 4000 (x1, 0, 0)
def fb_M_closing_93 (en : Int32) (cu : Nat → Int32) (pa : Nat → Int32) (re : Nat → Int32) (si : Nat → Int32) (lt : Nat → Int32) (pg : Nat → Int32)  (mt : Int32) (sx : Int32) (pl : Int32) (tk : Int32) (cl : Nat → Int32) (rd : Nat → Int32) (y0 : Int32) : Option (Int32 × Int32 × Int32 × Int32 × Int32 × (Nat → Int32) × (Nat → Int32)) :=
  if y0 = 0 then
    jv_gd (jv_zb y0) <|
    some (y0, mt, sx, pl, tk, cl, rd)
  else
    jv_gd (jv_ig (24 + sx) 48) <|
    jv_gd (jv_ig (24 + sx) 48) <|
    jv_gd (jv_zb y0) <|
    some (y0, mt, pa (24 + sx).toNatClampNeg, 0, tk, upd cl (24 + sx).toNatClampNeg (vp_nar .boolean 1), rd)
def fb_M_closing_36 (en : Int32) (cu : Nat → Int32) (pa : Nat → Int32) (re : Nat → Int32) (si : Nat → Int32) (lt : Nat → Int32) (pg : Nat → Int32)  (mt : Int32) (sx : Int32) (pl : Int32) (tk : Int32) (cl : Nat → Int32) (rd : Nat → Int32) (y1 : Int32) : Option (Int32 × Int32 × Int32 × Int32 × Int32 × (Nat → Int32) × (Nat → Int32)) :=
  Option.bind (fn_M_eat en pg mt y1) fun o_36 =>
  if o_36.1 = 0 then
    fb_M_closing_93 en cu pa re si lt pg o_36.2 sx pl tk cl rd 0
  else
    Option.bind (fn_M_placeOf pa 1 sx) fun o_49 =>
    Option.bind (fn_M_eatNumber en pg o_36.2 o_49) fun o_52 =>
    if o_52.1 = 0 then
      fb_M_closing_93 en cu pa re si lt pg o_52.2 sx pl tk cl rd 0
    else
      Option.bind (fn_M_eat en pg o_52.2 3) fun o_60 =>
      if o_60.1 = 0 then
        fb_M_closing_93 en cu pa re si lt pg o_60.2 sx pl tk cl rd 0
      else
        Option.bind (fn_M_eatName pg o_60.2 tk rd en) fun o_71 =>
        if o_71.1 = 0 then
          fb_M_closing_93 en cu pa re si lt pg o_71.2.1 sx pl o_71.2.2.1 cl o_71.2.2.2 0
        else
          Option.bind (fn_M_isName o_71.2.2.1 si lt o_71.2.2.2 sx) fun o_82 =>
          if o_82 = 0 then
            fb_M_closing_93 en cu pa re si lt pg o_71.2.1 sx pl o_71.2.2.1 cl o_71.2.2.2 0
          else
            fb_M_closing_93 en cu pa re si lt pg o_71.2.1 sx pl o_71.2.2.1 cl o_71.2.2.2 1
def fn_M_closing (en : Int32) (cu : Nat → Int32) (pa : Nat → Int32) (re : Nat → Int32) (si : Nat → Int32) (lt : Nat → Int32) (pg : Nat → Int32) (mt : Int32) (sx : Int32) (pl : Int32) (tk : Int32) (cl : Nat → Int32) (rd : Nat → Int32)  : Option (Int32 × Int32 × Int32 × Int32 × Int32 × (Nat → Int32) × (Nat → Int32)) :=
  Option.bind (fn_M_depthOf pa 1 sx) fun o_6 =>
  Option.bind (fn_M_eatSpaces en pg mt o_6) fun o_12 =>
  if o_12.1 = 0 then
    fb_M_closing_93 en cu pa re si lt pg o_12.2 sx pl tk cl rd 0
  else
    Option.bind (fn_M_good cu pa re 1 sx) fun o_25 =>
    if o_25 = 0 then
      fb_M_closing_36 en cu pa re si lt pg o_12.2 sx pl tk cl rd 2
    else
      fb_M_closing_36 en cu pa re si lt pg o_12.2 sx pl tk cl rd 1
def fb_M_plan_64 (en : Int32) (sx : Int32) (cu : Nat → Int32) (pa : Nat → Int32) (pg : Nat → Int32)  (mt : Int32) (pl : Int32) (ov : Int32) (y1 : Int32) : Option (Int32 × Int32 × Int32 × Int32) :=
  jv_gd (jv_zb y1) <|
  if 0 ≤ sx then
    some (1, mt, y1, 0)
  else
    some (1, mt, y1, 1)
def fn_M_plan (en : Int32) (sx : Int32) (cu : Nat → Int32) (pa : Nat → Int32) (pg : Nat → Int32) (mt : Int32) (pl : Int32) (ov : Int32) (x1 : Int32) (x2 : Int32) : Option (Int32 × Int32 × Int32 × Int32) :=
  Option.bind (fn_M_eatSpaces en pg x1 x2) fun o_7 =>
  if o_7.1 = 0 then
    some (0, o_7.2, pl, ov)
  else
    Option.bind (fn_M_eat en pg o_7.2 7) fun o_16 =>
    if o_16.1 = 0 then
      some (0, o_16.2, pl, ov)
    else
      Option.bind (fn_M_rowSize cu pa 1 sx) fun o_29 =>
      Option.bind (fn_M_eatNumber en pg o_16.2 o_29) fun o_32 =>
      if o_32.1 = 0 then
        some (0, o_32.2, pl, ov)
      else
        if o_32.2 = en then
          if sx < 0 then
            fb_M_plan_64 en sx cu pa pg o_32.2 pl ov 0
          else
            fb_M_plan_64 en sx cu pa pg o_32.2 pl ov 1
        else
          some (0, o_32.2, pl, ov)
def fn_M_bail (en : Int32) (sx : Int32) (pg : Nat → Int32) (mt : Int32) (ov : Int32) (x1 : Int32) : Option (Int32 × Int32 × Int32) :=
  if sx < 0 then
    some (0, x1, 0)
  else
    Option.bind (fn_M_eat en pg x1 8) fun o_16 =>
    if o_16.1 = 0 then
      some (0, o_16.2, 0)
    else
      if o_16.2 = en then
        some (1, o_16.2, 1)
      else
        some (0, o_16.2, 0)
def fn_M_subtest (en : Int32) (pg : Nat → Int32) (mt : Int32) (sx : Int32) (tk : Int32) (cu : Nat → Int32) (pa : Nat → Int32) (re : Nat → Int32) (cl : Nat → Int32) (si : Nat → Int32) (lt : Nat → Int32) (rd : Nat → Int32) (x1 : Int32) (x2 : Int32) : Option (Int32 × Int32 × Int32 × Int32 × (Nat → Int32) × (Nat → Int32) × (Nat → Int32) × (Nat → Int32) × (Nat → Int32) × (Nat → Int32) × (Nat → Int32)) :=
  if 3 ≤ x2 then
    some (0, x1, sx, tk, cu, pa, re, cl, si, lt, rd)
  else
    Option.bind (fn_M_eatSpaces en pg x1 x2) fun o_12 =>
    if o_12.1 = 0 then
      some (0, o_12.2, sx, tk, cu, pa, re, cl, si, lt, rd)
    else
      Option.bind (fn_M_eat en pg o_12.2 6) fun o_21 =>
      if o_21.1 = 0 then
        some (0, o_21.2, sx, tk, cu, pa, re, cl, si, lt, rd)
      else
        Option.bind (fn_M_eatName pg o_21.2 tk rd en) fun o_32 =>
        if o_32.1 = 0 then
          some (0, o_32.2.1, sx, o_32.2.2.1, cu, pa, re, cl, si, lt, o_32.2.2.2)
        else
          Option.bind (fn_M_accept o_32.2.2.1 o_32.2.2.2 sx cu pa re cl si lt 4) fun o_40 =>
          if o_40.1 = 0 then
            some (0, o_32.2.1, o_40.2.1, o_32.2.2.1, o_40.2.2.1, o_40.2.2.2.1, o_40.2.2.2.2.1, o_40.2.2.2.2.2.1, o_40.2.2.2.2.2.2.1, o_40.2.2.2.2.2.2.2, o_32.2.2.2)
          else
            some (1, o_32.2.1, o_40.2.1, o_32.2.2.1, o_40.2.2.1, o_40.2.2.2.1, o_40.2.2.2.2.1, o_40.2.2.2.2.2.1, o_40.2.2.2.2.2.2.1, o_40.2.2.2.2.2.2.2, o_32.2.2.2)
def fn_M_endsWith (en : Int32) (pg : Nat → Int32) (mt : Int32) (x1 : Int32) (x2 : Int32) (x3 : Int32) : Option (Int32 × Int32) :=
  if (en - x3) < x1 then
    some (0, mt)
  else
    Option.bind (fn_M_eat en pg (en - x3) x2) fun o_26 =>
    if o_26.1 = 0 then
      some (0, mt)
    else
      some (1, mt)
def fb_M_testLine_139 (en : Int32) (pg : Nat → Int32)  (mt : Int32) (sx : Int32) (tk : Int32) (cu : Nat → Int32) (pa : Nat → Int32) (re : Nat → Int32) (cl : Nat → Int32) (si : Nat → Int32) (lt : Nat → Int32) (rd : Nat → Int32) (y1 : Int32) : Option (Int32 × Int32 × Int32 × Int32 × (Nat → Int32) × (Nat → Int32) × (Nat → Int32) × (Nat → Int32) × (Nat → Int32) × (Nat → Int32) × (Nat → Int32)) :=
  Option.bind (fn_M_accept tk rd sx cu pa re cl si lt y1) fun o_139 =>
  if o_139.1 = 0 then
    some (0, mt, o_139.2.1, tk, o_139.2.2.1, o_139.2.2.2.1, o_139.2.2.2.2.1, o_139.2.2.2.2.2.1, o_139.2.2.2.2.2.2.1, o_139.2.2.2.2.2.2.2, rd)
  else
    some (1, mt, o_139.2.1, tk, o_139.2.2.1, o_139.2.2.2.1, o_139.2.2.2.2.1, o_139.2.2.2.2.2.1, o_139.2.2.2.2.2.2.1, o_139.2.2.2.2.2.2.2, rd)
def fb_M_testLine_106 (en : Int32) (pg : Nat → Int32)  (mt : Int32) (sx : Int32) (tk : Int32) (cu : Nat → Int32) (pa : Nat → Int32) (re : Nat → Int32) (cl : Nat → Int32) (si : Nat → Int32) (lt : Nat → Int32) (rd : Nat → Int32) (x3 : Int32) (x5 : Int32) (y1 : Int32) : Option (Int32 × Int32 × Int32 × Int32 × (Nat → Int32) × (Nat → Int32) × (Nat → Int32) × (Nat → Int32) × (Nat → Int32) × (Nat → Int32) × (Nat → Int32)) :=
  Option.bind (fn_M_eatName pg mt tk rd y1) fun o_106 =>
  if o_106.1 = 0 then
    some (0, o_106.2.1, sx, o_106.2.2.1, cu, pa, re, cl, si, lt, o_106.2.2.2)
  else
    if x5 = 0 then
      if x3 = 0 then
        fb_M_testLine_139 en pg o_106.2.1 sx o_106.2.2.1 cu pa re cl si lt o_106.2.2.2 1
      else
        fb_M_testLine_139 en pg o_106.2.1 sx o_106.2.2.1 cu pa re cl si lt o_106.2.2.2 0
    else
      if x3 = 0 then
        fb_M_testLine_139 en pg o_106.2.1 sx o_106.2.2.1 cu pa re cl si lt o_106.2.2.2 3
      else
        fb_M_testLine_139 en pg o_106.2.1 sx o_106.2.2.1 cu pa re cl si lt o_106.2.2.2 2
def fb_M_testLine_79 (en : Int32) (pg : Nat → Int32)  (mt : Int32) (sx : Int32) (tk : Int32) (cu : Nat → Int32) (pa : Nat → Int32) (re : Nat → Int32) (cl : Nat → Int32) (si : Nat → Int32) (lt : Nat → Int32) (rd : Nat → Int32) (x3 : Int32) (y1 : Int32) (y2 : Int32) : Option (Int32 × Int32 × Int32 × Int32 × (Nat → Int32) × (Nat → Int32) × (Nat → Int32) × (Nat → Int32) × (Nat → Int32) × (Nat → Int32) × (Nat → Int32)) :=
  Option.bind (fn_M_endsWith en pg mt y1 y2 7) fun o_81 =>
  if o_81.1 = 0 then
    fb_M_testLine_106 en pg o_81.2 sx tk cu pa re cl si lt rd x3 o_81.1 en
  else
    fb_M_testLine_106 en pg o_81.2 sx tk cu pa re cl si lt rd x3 o_81.1 (en - 7)
def fb_M_testLine_44 (en : Int32) (pg : Nat → Int32)  (mt : Int32) (sx : Int32) (tk : Int32) (cu : Nat → Int32) (pa : Nat → Int32) (re : Nat → Int32) (cl : Nat → Int32) (si : Nat → Int32) (lt : Nat → Int32) (rd : Nat → Int32) (x3 : Int32) (x4 : Int32) : Option (Int32 × Int32 × Int32 × Int32 × (Nat → Int32) × (Nat → Int32) × (Nat → Int32) × (Nat → Int32) × (Nat → Int32) × (Nat → Int32) × (Nat → Int32)) :=
  Option.bind (fn_M_eatNumber en pg mt (x4 + 1)) fun o_49 =>
  if o_49.1 = 0 then
    some (0, o_49.2, sx, tk, cu, pa, re, cl, si, lt, rd)
  else
    Option.bind (fn_M_eat en pg o_49.2 3) fun o_57 =>
    if o_57.1 = 0 then
      some (0, o_57.2, sx, tk, cu, pa, re, cl, si, lt, rd)
    else
      if x3 = 0 then
        fb_M_testLine_79 en pg o_57.2 sx tk cu pa re cl si lt rd x3 o_57.2 5
      else
        fb_M_testLine_79 en pg o_57.2 sx tk cu pa re cl si lt rd x3 o_57.2 4
def fn_M_testLine (en : Int32) (pg : Nat → Int32) (mt : Int32) (sx : Int32) (tk : Int32) (cu : Nat → Int32) (pa : Nat → Int32) (re : Nat → Int32) (cl : Nat → Int32) (si : Nat → Int32) (lt : Nat → Int32) (rd : Nat → Int32) (x1 : Int32) (x2 : Int32) : Option (Int32 × Int32 × Int32 × Int32 × (Nat → Int32) × (Nat → Int32) × (Nat → Int32) × (Nat → Int32) × (Nat → Int32) × (Nat → Int32) × (Nat → Int32)) :=
  Option.bind (fn_M_eatSpaces en pg x1 x2) fun o_7 =>
  if o_7.1 = 0 then
    some (0, o_7.2, sx, tk, cu, pa, re, cl, si, lt, rd)
  else
    Option.bind (fn_M_eat en pg o_7.2 1) fun o_17 =>
    Option.bind (fn_M_rowSize cu pa 1 sx) fun o_27 =>
    if o_17.1 = 0 then
      Option.bind (fn_M_eat en pg o_17.2 2) fun o_38 =>
      if o_38.1 = 0 then
        some (0, o_38.2, sx, tk, cu, pa, re, cl, si, lt, rd)
      else
        fb_M_testLine_44 en pg o_38.2 sx tk cu pa re cl si lt rd o_17.1 o_27
    else
      fb_M_testLine_44 en pg o_17.2 sx tk cu pa re cl si lt rd o_17.1 o_27
def fb_M_line_48 (en : Int32) (pg : Nat → Int32)  (mt : Int32) (sx : Int32) (pl : Int32) (ov : Int32) (tk : Int32) (cu : Nat → Int32) (pa : Nat → Int32) (re : Nat → Int32) (cl : Nat → Int32) (si : Nat → Int32) (lt : Nat → Int32) (rd : Nat → Int32) (x1 : Int32) (y0 : Int32) : Option (Int32 × Int32 × Int32 × Int32 × Int32 × Int32 × (Nat → Int32) × (Nat → Int32) × (Nat → Int32) × (Nat → Int32) × (Nat → Int32) × (Nat → Int32) × (Nat → Int32)) :=
  Option.bind (fn_M_plan en sx cu pa pg mt pl ov x1 y0) fun o_52 =>
  if o_52.1 = 0 then
    Option.bind (fn_M_bail en sx pg o_52.2.1 o_52.2.2.2 x1) fun o_60 =>
    if o_60.1 = 0 then
      Option.bind (fn_M_subtest en pg o_60.2.1 sx tk cu pa re cl si lt rd x1 y0) fun o_69 =>
      if o_69.1 = 0 then
        Option.bind (fn_M_testLine en pg o_69.2.1 o_69.2.2.1 o_69.2.2.2.1 o_69.2.2.2.2.1 o_69.2.2.2.2.2.1 o_69.2.2.2.2.2.2.1 o_69.2.2.2.2.2.2.2.1 o_69.2.2.2.2.2.2.2.2.1 o_69.2.2.2.2.2.2.2.2.2.1 o_69.2.2.2.2.2.2.2.2.2.2 x1 y0) fun o_78 =>
        if o_78.1 = 0 then
          some (0, o_78.2.1, o_78.2.2.1, o_52.2.2.1, o_60.2.2, o_78.2.2.2.1, o_78.2.2.2.2.1, o_78.2.2.2.2.2.1, o_78.2.2.2.2.2.2.1, o_78.2.2.2.2.2.2.2.1, o_78.2.2.2.2.2.2.2.2.1, o_78.2.2.2.2.2.2.2.2.2.1, o_78.2.2.2.2.2.2.2.2.2.2)
        else
          some (1, o_78.2.1, o_78.2.2.1, o_52.2.2.1, o_60.2.2, o_78.2.2.2.1, o_78.2.2.2.2.1, o_78.2.2.2.2.2.1, o_78.2.2.2.2.2.2.1, o_78.2.2.2.2.2.2.2.1, o_78.2.2.2.2.2.2.2.2.1, o_78.2.2.2.2.2.2.2.2.2.1, o_78.2.2.2.2.2.2.2.2.2.2)
      else
        some (1, o_69.2.1, o_69.2.2.1, o_52.2.2.1, o_60.2.2, o_69.2.2.2.1, o_69.2.2.2.2.1, o_69.2.2.2.2.2.1, o_69.2.2.2.2.2.2.1, o_69.2.2.2.2.2.2.2.1, o_69.2.2.2.2.2.2.2.2.1, o_69.2.2.2.2.2.2.2.2.2.1, o_69.2.2.2.2.2.2.2.2.2.2)
    else
      some (1, o_60.2.1, sx, o_52.2.2.1, o_60.2.2, tk, cu, pa, re, cl, si, lt, rd)
  else
    some (1, o_52.2.1, sx, o_52.2.2.1, o_52.2.2.2, tk, cu, pa, re, cl, si, lt, rd)
def fn_M_line (en : Int32) (pg : Nat → Int32) (mt : Int32) (sx : Int32) (pl : Int32) (ov : Int32) (tk : Int32) (cu : Nat → Int32) (pa : Nat → Int32) (re : Nat → Int32) (cl : Nat → Int32) (si : Nat → Int32) (lt : Nat → Int32) (rd : Nat → Int32) (x1 : Int32) : Option (Int32 × Int32 × Int32 × Int32 × Int32 × Int32 × (Nat → Int32) × (Nat → Int32) × (Nat → Int32) × (Nat → Int32) × (Nat → Int32) × (Nat → Int32) × (Nat → Int32)) :=
  if ov = 0 then
    if pl = 0 then
      if 0 ≤ sx then
        Option.bind (fn_M_depthOf pa 1 sx) fun o_43 =>
        fb_M_line_48 en pg x1 sx pl ov tk cu pa re cl si lt rd x1 (o_43 + 1)
      else
        fb_M_line_48 en pg x1 sx pl ov tk cu pa re cl si lt rd x1 0
    else
      Option.bind (fn_M_closing en cu pa re si lt pg x1 sx pl tk cl rd) fun o_22 =>
      jv_gd (jv_zb o_22.1) <|
      some (o_22.1, o_22.2.1, o_22.2.2.1, o_22.2.2.2.1, ov, o_22.2.2.2.2.1, cu, pa, re, o_22.2.2.2.2.2.1, si, lt, o_22.2.2.2.2.2.2)
  else
    some (0, mt, sx, pl, ov, tk, cu, pa, re, cl, si, lt, rd)
def fb_M_adopt_88   (k88 : (Nat → Int32) × (Nat → Int32) × (Nat → Int32) × (Nat → Int32) × (Nat → Int32) × (Nat → Int32) × Int32 → Option ((Nat → Int32) × (Nat → Int32) × (Nat → Int32) × (Nat → Int32) × (Nat → Int32) × (Nat → Int32))) (cu : Nat → Int32) (pa : Nat → Int32) (re : Nat → Int32) (cl : Nat → Int32) (si : Nat → Int32) (lt : Nat → Int32) (x1 : Int32) : Option ((Nat → Int32) × (Nat → Int32) × (Nat → Int32) × (Nat → Int32) × (Nat → Int32) × (Nat → Int32)) :=
  if 144 ≤ x1 then
    some (cu, pa, re, cl, si, lt)
  else
    jv_gd (jv_ig (144 + x1) 288) <|
    jv_gd (jv_ig x1 288) <|
    k88 (cu, pa, re, cl, si, upd lt x1.toNatClampNeg (vp_nar .char (lt (144 + x1).toNatClampNeg)), x1 + 1)
def fl_M_adopt_88   : Nat → (Nat → Int32) × (Nat → Int32) × (Nat → Int32) × (Nat → Int32) × (Nat → Int32) × (Nat → Int32) × Int32 → Option ((Nat → Int32) × (Nat → Int32) × (Nat → Int32) × (Nat → Int32) × (Nat → Int32) × (Nat → Int32)) := jv_lp (fun k z => fb_M_adopt_88   k z.1 z.2.1 z.2.2.1 z.2.2.2.1 z.2.2.2.2.1 z.2.2.2.2.2.1 z.2.2.2.2.2.2)
def fb_M_adopt_14   (k14 : (Nat → Int32) × (Nat → Int32) × (Nat → Int32) × (Nat → Int32) × (Nat → Int32) × (Nat → Int32) × Int32 → Option ((Nat → Int32) × (Nat → Int32) × (Nat → Int32) × (Nat → Int32) × (Nat → Int32) × (Nat → Int32))) (cu : Nat → Int32) (pa : Nat → Int32) (re : Nat → Int32) (cl : Nat → Int32) (si : Nat → Int32) (lt : Nat → Int32) (x1 : Int32) : Option ((Nat → Int32) × (Nat → Int32) × (Nat → Int32) × (Nat → Int32) × (Nat → Int32) × (Nat → Int32)) :=
  if 24 ≤ x1 then
    fl_M_adopt_88 4000 (cu, pa, re, cl, si, lt, 0)
  else
    jv_gd (jv_ig (24 + x1) 48) <|
    jv_gd (jv_ig x1 48) <|
    jv_gd (jv_ig (24 + x1) 48) <|
    jv_gd (jv_ig x1 48) <|
    jv_gd (jv_ig (24 + x1) 48) <|
    jv_gd (jv_ig x1 48) <|
    jv_gd (jv_ig (24 + x1) 48) <|
    jv_gd (jv_ig x1 48) <|
    k14 (cu, upd pa x1.toNatClampNeg (pa (24 + x1).toNatClampNeg), upd re x1.toNatClampNeg (re (24 + x1).toNatClampNeg), upd cl x1.toNatClampNeg (vp_nar .boolean (cl (24 + x1).toNatClampNeg)), upd si x1.toNatClampNeg (si (24 + x1).toNatClampNeg), lt, x1 + 1)
def fl_M_adopt_14   : Nat → (Nat → Int32) × (Nat → Int32) × (Nat → Int32) × (Nat → Int32) × (Nat → Int32) × (Nat → Int32) × Int32 → Option ((Nat → Int32) × (Nat → Int32) × (Nat → Int32) × (Nat → Int32) × (Nat → Int32) × (Nat → Int32)) := jv_lp (fun k z => fb_M_adopt_14   k z.1 z.2.1 z.2.2.1 z.2.2.2.1 z.2.2.2.2.1 z.2.2.2.2.2.1 z.2.2.2.2.2.2)
def fn_M_adopt  (cu : Nat → Int32) (pa : Nat → Int32) (re : Nat → Int32) (cl : Nat → Int32) (si : Nat → Int32) (lt : Nat → Int32)  : Option ((Nat → Int32) × (Nat → Int32) × (Nat → Int32) × (Nat → Int32) × (Nat → Int32) × (Nat → Int32)) :=
  jv_gd (jv_ig 1 2) <|
  jv_gd (jv_ig 0 2) <|
  fl_M_adopt_14 4000 (upd cu (0 : Int32).toNatClampNeg (cu (1 : Int32).toNatClampNeg), pa, re, cl, si, lt, 0)
def fb_M_read_157 (ln : Int32) (pg : Nat → Int32)  (mt : Int32) (en : Int32) (sx : Int32) (pl : Int32) (ov : Int32) (tk : Int32) (cu : Nat → Int32) (pa : Nat → Int32) (re : Nat → Int32) (cl : Nat → Int32) (si : Nat → Int32) (lt : Nat → Int32) (rd : Nat → Int32) (x2 : Int32) (x3 : Int32) : Option (Int32 × Int32 × Int32 × Int32 × Int32 × Int32 × Int32 × (Nat → Int32) × (Nat → Int32) × (Nat → Int32) × (Nat → Int32) × (Nat → Int32) × (Nat → Int32) × (Nat → Int32)) :=
  if x3 = 0 then
    some (-x2, mt, en, sx, pl, ov, tk, cu, pa, re, cl, si, lt, rd)
  else
    if ov = 0 then
      some (-x2, mt, en, sx, pl, ov, tk, cu, pa, re, cl, si, lt, rd)
    else
      Option.bind (fn_M_adopt cu pa re cl si lt) fun o_172 =>
      some (0, mt, en, sx, pl, ov, tk, o_172.1, o_172.2.1, o_172.2.2.1, o_172.2.2.2.1, o_172.2.2.2.2.1, o_172.2.2.2.2.2, rd)
def fb_M_read_139 (ln : Int32) (pg : Nat → Int32) (k28 : Int32 × Int32 × Int32 × Int32 × Int32 × Int32 × (Nat → Int32) × (Nat → Int32) × (Nat → Int32) × (Nat → Int32) × (Nat → Int32) × (Nat → Int32) × (Nat → Int32) × Int32 × Int32 × Int32 → Option (Int32 × Int32 × Int32 × Int32 × Int32 × Int32 × Int32 × (Nat → Int32) × (Nat → Int32) × (Nat → Int32) × (Nat → Int32) × (Nat → Int32) × (Nat → Int32) × (Nat → Int32))) (mt : Int32) (en : Int32) (sx : Int32) (pl : Int32) (ov : Int32) (tk : Int32) (cu : Nat → Int32) (pa : Nat → Int32) (re : Nat → Int32) (cl : Nat → Int32) (si : Nat → Int32) (lt : Nat → Int32) (rd : Nat → Int32) (x1 : Int32) (x2 : Int32) (y0 : Int32) : Option (Int32 × Int32 × Int32 × Int32 × Int32 × Int32 × Int32 × (Nat → Int32) × (Nat → Int32) × (Nat → Int32) × (Nat → Int32) × (Nat → Int32) × (Nat → Int32) × (Nat → Int32)) :=
  if y0 = 0 then
    k28 (mt, en, sx, pl, ov, tk, cu, pa, re, cl, si, lt, rd, x1, x2, y0)
  else
    k28 (mt, en, sx, pl, ov, tk, cu, pa, re, cl, si, lt, rd, en + 1, x2 + 1, y0)
def fb_M_read_83 (ln : Int32) (pg : Nat → Int32) (k28 : Int32 × Int32 × Int32 × Int32 × Int32 × Int32 × (Nat → Int32) × (Nat → Int32) × (Nat → Int32) × (Nat → Int32) × (Nat → Int32) × (Nat → Int32) × (Nat → Int32) × Int32 × Int32 × Int32 → Option (Int32 × Int32 × Int32 × Int32 × Int32 × Int32 × Int32 × (Nat → Int32) × (Nat → Int32) × (Nat → Int32) × (Nat → Int32) × (Nat → Int32) × (Nat → Int32) × (Nat → Int32))) (mt : Int32) (en : Int32) (sx : Int32) (pl : Int32) (ov : Int32) (tk : Int32) (cu : Nat → Int32) (pa : Nat → Int32) (re : Nat → Int32) (cl : Nat → Int32) (si : Nat → Int32) (lt : Nat → Int32) (rd : Nat → Int32) (x1 : Int32) (x2 : Int32) : Option (Int32 × Int32 × Int32 × Int32 × Int32 × Int32 × Int32 × (Nat → Int32) × (Nat → Int32) × (Nat → Int32) × (Nat → Int32) × (Nat → Int32) × (Nat → Int32) × (Nat → Int32)) :=
  if ln ≤ en then
    fb_M_read_139 ln pg k28 x1 en sx pl ov tk cu pa re cl si lt rd x1 x2 0
  else
    if x2 = 1 then
      Option.bind (fn_M_eat en pg x1 0) fun o_106 =>
      if o_106.1 = 0 then
        fb_M_read_139 ln pg k28 o_106.2 en sx pl ov tk cu pa re cl si lt rd x1 x2 0
      else
        if o_106.2 = en then
          fb_M_read_139 ln pg k28 o_106.2 en sx pl ov tk cu pa re cl si lt rd x1 x2 1
        else
          fb_M_read_139 ln pg k28 o_106.2 en sx pl ov tk cu pa re cl si lt rd x1 x2 0
    else
      Option.bind (fn_M_line en pg x1 sx pl ov tk cu pa re cl si lt rd x1) fun o_128 =>
      if o_128.1 = 0 then
        fb_M_read_139 ln pg k28 o_128.2.1 en o_128.2.2.1 o_128.2.2.2.1 o_128.2.2.2.2.1 o_128.2.2.2.2.2.1 o_128.2.2.2.2.2.2.1 o_128.2.2.2.2.2.2.2.1 o_128.2.2.2.2.2.2.2.2.1 o_128.2.2.2.2.2.2.2.2.2.1 o_128.2.2.2.2.2.2.2.2.2.2.1 o_128.2.2.2.2.2.2.2.2.2.2.2.1 o_128.2.2.2.2.2.2.2.2.2.2.2.2 x1 x2 0
      else
        fb_M_read_139 ln pg k28 o_128.2.1 en o_128.2.2.1 o_128.2.2.2.1 o_128.2.2.2.2.1 o_128.2.2.2.2.2.1 o_128.2.2.2.2.2.2.1 o_128.2.2.2.2.2.2.2.1 o_128.2.2.2.2.2.2.2.2.1 o_128.2.2.2.2.2.2.2.2.2.1 o_128.2.2.2.2.2.2.2.2.2.2.1 o_128.2.2.2.2.2.2.2.2.2.2.2.1 o_128.2.2.2.2.2.2.2.2.2.2.2.2 x1 x2 1
def fb_M_read_45 (ln : Int32) (pg : Nat → Int32) (k28 : Int32 × Int32 × Int32 × Int32 × Int32 × Int32 × (Nat → Int32) × (Nat → Int32) × (Nat → Int32) × (Nat → Int32) × (Nat → Int32) × (Nat → Int32) × (Nat → Int32) × Int32 × Int32 × Int32 → Option (Int32 × Int32 × Int32 × Int32 × Int32 × Int32 × Int32 × (Nat → Int32) × (Nat → Int32) × (Nat → Int32) × (Nat → Int32) × (Nat → Int32) × (Nat → Int32) × (Nat → Int32))) (k45 : Int32 × Int32 × Int32 × Int32 × Int32 × Int32 × (Nat → Int32) × (Nat → Int32) × (Nat → Int32) × (Nat → Int32) × (Nat → Int32) × (Nat → Int32) × (Nat → Int32) × Int32 × Int32 → Option (Int32 × Int32 × Int32 × Int32 × Int32 × Int32 × Int32 × (Nat → Int32) × (Nat → Int32) × (Nat → Int32) × (Nat → Int32) × (Nat → Int32) × (Nat → Int32) × (Nat → Int32))) (mt : Int32) (en : Int32) (sx : Int32) (pl : Int32) (ov : Int32) (tk : Int32) (cu : Nat → Int32) (pa : Nat → Int32) (re : Nat → Int32) (cl : Nat → Int32) (si : Nat → Int32) (lt : Nat → Int32) (rd : Nat → Int32) (x1 : Int32) (x2 : Int32) : Option (Int32 × Int32 × Int32 × Int32 × Int32 × Int32 × Int32 × (Nat → Int32) × (Nat → Int32) × (Nat → Int32) × (Nat → Int32) × (Nat → Int32) × (Nat → Int32) × (Nat → Int32)) :=
  if ln ≤ en then
    fb_M_read_83 ln pg k28 mt en sx pl ov tk cu pa re cl si lt rd x1 x2
  else
    jv_gd (jv_ig en 3000) <|
    if (pg en.toNatClampNeg) = 10 then
      fb_M_read_83 ln pg k28 mt en sx pl ov tk cu pa re cl si lt rd x1 x2
    else
      k45 (mt, en + 1, sx, pl, ov, tk, cu, pa, re, cl, si, lt, rd, x1, x2)
def fl_M_read_45 (ln : Int32) (pg : Nat → Int32) (k28 : Int32 × Int32 × Int32 × Int32 × Int32 × Int32 × (Nat → Int32) × (Nat → Int32) × (Nat → Int32) × (Nat → Int32) × (Nat → Int32) × (Nat → Int32) × (Nat → Int32) × Int32 × Int32 × Int32 → Option (Int32 × Int32 × Int32 × Int32 × Int32 × Int32 × Int32 × (Nat → Int32) × (Nat → Int32) × (Nat → Int32) × (Nat → Int32) × (Nat → Int32) × (Nat → Int32) × (Nat → Int32))) : Nat → Int32 × Int32 × Int32 × Int32 × Int32 × Int32 × (Nat → Int32) × (Nat → Int32) × (Nat → Int32) × (Nat → Int32) × (Nat → Int32) × (Nat → Int32) × (Nat → Int32) × Int32 × Int32 → Option (Int32 × Int32 × Int32 × Int32 × Int32 × Int32 × Int32 × (Nat → Int32) × (Nat → Int32) × (Nat → Int32) × (Nat → Int32) × (Nat → Int32) × (Nat → Int32) × (Nat → Int32)) := jv_lp (fun k z => fb_M_read_45 ln pg k28 k z.1 z.2.1 z.2.2.1 z.2.2.2.1 z.2.2.2.2.1 z.2.2.2.2.2.1 z.2.2.2.2.2.2.1 z.2.2.2.2.2.2.2.1 z.2.2.2.2.2.2.2.2.1 z.2.2.2.2.2.2.2.2.2.1 z.2.2.2.2.2.2.2.2.2.2.1 z.2.2.2.2.2.2.2.2.2.2.2.1 z.2.2.2.2.2.2.2.2.2.2.2.2.1 z.2.2.2.2.2.2.2.2.2.2.2.2.2.1 z.2.2.2.2.2.2.2.2.2.2.2.2.2.2)
def fb_M_read_28 (ln : Int32) (pg : Nat → Int32)  (k28 : Int32 × Int32 × Int32 × Int32 × Int32 × Int32 × (Nat → Int32) × (Nat → Int32) × (Nat → Int32) × (Nat → Int32) × (Nat → Int32) × (Nat → Int32) × (Nat → Int32) × Int32 × Int32 × Int32 → Option (Int32 × Int32 × Int32 × Int32 × Int32 × Int32 × Int32 × (Nat → Int32) × (Nat → Int32) × (Nat → Int32) × (Nat → Int32) × (Nat → Int32) × (Nat → Int32) × (Nat → Int32))) (mt : Int32) (en : Int32) (sx : Int32) (pl : Int32) (ov : Int32) (tk : Int32) (cu : Nat → Int32) (pa : Nat → Int32) (re : Nat → Int32) (cl : Nat → Int32) (si : Nat → Int32) (lt : Nat → Int32) (rd : Nat → Int32) (x1 : Int32) (x2 : Int32) (x3 : Int32) : Option (Int32 × Int32 × Int32 × Int32 × Int32 × Int32 × Int32 × (Nat → Int32) × (Nat → Int32) × (Nat → Int32) × (Nat → Int32) × (Nat → Int32) × (Nat → Int32) × (Nat → Int32)) :=
  if x3 = 0 then
    fb_M_read_157 ln pg mt en sx pl ov tk cu pa re cl si lt rd x2 x3
  else
    if ln ≤ x1 then
      fb_M_read_157 ln pg mt en sx pl ov tk cu pa re cl si lt rd x2 x3
    else
      fl_M_read_45 ln pg k28 4000 (mt, x1, sx, pl, ov, tk, cu, pa, re, cl, si, lt, rd, x1, x2)
def fl_M_read_28 (ln : Int32) (pg : Nat → Int32)  : Nat → Int32 × Int32 × Int32 × Int32 × Int32 × Int32 × (Nat → Int32) × (Nat → Int32) × (Nat → Int32) × (Nat → Int32) × (Nat → Int32) × (Nat → Int32) × (Nat → Int32) × Int32 × Int32 × Int32 → Option (Int32 × Int32 × Int32 × Int32 × Int32 × Int32 × Int32 × (Nat → Int32) × (Nat → Int32) × (Nat → Int32) × (Nat → Int32) × (Nat → Int32) × (Nat → Int32) × (Nat → Int32)) := jv_lp (fun k z => fb_M_read_28 ln pg  k z.1 z.2.1 z.2.2.1 z.2.2.2.1 z.2.2.2.2.1 z.2.2.2.2.2.1 z.2.2.2.2.2.2.1 z.2.2.2.2.2.2.2.1 z.2.2.2.2.2.2.2.2.1 z.2.2.2.2.2.2.2.2.2.1 z.2.2.2.2.2.2.2.2.2.2.1 z.2.2.2.2.2.2.2.2.2.2.2.1 z.2.2.2.2.2.2.2.2.2.2.2.2.1 z.2.2.2.2.2.2.2.2.2.2.2.2.2.1 z.2.2.2.2.2.2.2.2.2.2.2.2.2.2.1 z.2.2.2.2.2.2.2.2.2.2.2.2.2.2.2)
def fn_M_read (ln : Int32) (pg : Nat → Int32) (mt : Int32) (en : Int32) (sx : Int32) (pl : Int32) (ov : Int32) (tk : Int32) (cu : Nat → Int32) (pa : Nat → Int32) (re : Nat → Int32) (cl : Nat → Int32) (si : Nat → Int32) (lt : Nat → Int32) (rd : Nat → Int32)  : Option (Int32 × Int32 × Int32 × Int32 × Int32 × Int32 × Int32 × (Nat → Int32) × (Nat → Int32) × (Nat → Int32) × (Nat → Int32) × (Nat → Int32) × (Nat → Int32) × (Nat → Int32)) :=
  jv_gd (jv_ig 1 2) <|
  fl_M_read_28 ln pg 4000 (mt, en, (-1), 0, 0, tk, upd cu (1 : Int32).toNatClampNeg 0, pa, re, cl, si, lt, rd, 0, 1, 1)
def fn_M_length (ln : Int32)   : Option (Int32) :=
  some ln
def fn_M_at (ln : Int32) (pg : Nat → Int32)  (x1 : Int32) : Option (Int32) :=
  if x1 < 0 then
    some (-1)
  else
    if ln ≤ x1 then
      some (-1)
    else
      jv_gd (jv_ig x1 3000) <|
      some (pg x1.toNatClampNeg)
def fn_M_fits   (x0 : Int32) : Option (Int32) :=
  if x0 = 10 then
    some 1
  else
    if x0 < 32 then
      some 0
    else
      if 126 < x0 then
        some 0
      else
        some 1
def fn_M_put  (ln : Int32) (pg : Nat → Int32) (x1 : Int32) : Option (Int32 × Int32 × (Nat → Int32)) :=
  Option.bind (fn_M_fits x1) fun o_1 =>
  if o_1 = 0 then
    some (0, ln, pg)
  else
    if ln = 3000 then
      some (0, ln, pg)
    else
      jv_gd (jv_ig ln 3000) <|
      some (1, ln + 1, upd pg ln.toNatClampNeg (vp_nar .char x1))
def fn_M_poke (ln : Int32) (pg : Nat → Int32) (x1 : Int32) (x2 : Int32) : Option (Int32 × (Nat → Int32)) :=
  if x1 < 0 then
    some (0, pg)
  else
    if ln ≤ x1 then
      some (0, pg)
    else
      Option.bind (fn_M_fits x2) fun o_13 =>
      if o_13 = 0 then
        some (0, pg)
      else
        jv_gd (jv_ig x1 3000) <|
        some (1, upd pg x1.toNatClampNeg (vp_nar .char x2))
def fn_M_cut  (ln : Int32) (x1 : Int32) : Option (Int32 × Int32) :=
  if x1 < 0 then
    some (0, ln)
  else
    if x1 ≤ ln then
      some (1, x1)
    else
      some (0, ln)
def fb_M_sameName_24 (si : Nat → Int32) (lt : Nat → Int32)  (k24 : Int32 × Int32 × Int32 × Int32 → Option (Int32)) (x1 : Int32) (x2 : Int32) (x3 : Int32) (x4 : Int32) : Option (Int32) :=
  jv_gd (jv_ig x1 48) <|
  if (si x1.toNatClampNeg) ≤ x4 then
    jv_gd (jv_zb x3) <|
    some x3
  else
    if x3 = 0 then
      jv_gd (jv_zb x3) <|
      some x3
    else
      jv_gd (jv_ig ((6 * x1) + x4) 288) <|
      jv_gd (jv_ig ((6 * x2) + x4) 288) <|
      if (lt ((6 * x1) + x4).toNatClampNeg) = (lt ((6 * x2) + x4).toNatClampNeg) then
        k24 (x1, x2, 1, x4 + 1)
      else
        k24 (x1, x2, 0, x4 + 1)
def fl_M_sameName_24 (si : Nat → Int32) (lt : Nat → Int32)  : Nat → Int32 × Int32 × Int32 × Int32 → Option (Int32) := jv_lp (fun k z => fb_M_sameName_24 si lt  k z.1 z.2.1 z.2.2.1 z.2.2.2)
def fn_M_sameName (si : Nat → Int32) (lt : Nat → Int32)  (x1 : Int32) (x2 : Int32) : Option (Int32) :=
  jv_gd (jv_ig x1 48) <|
  jv_gd (jv_ig x2 48) <|
  if (si x1.toNatClampNeg) = (si x2.toNatClampNeg) then
    fl_M_sameName_24 si lt 4000 (x1, x2, 1, 0)
  else
    fl_M_sameName_24 si lt 4000 (x1, x2, 0, 0)
def fb_M_alike_84 (pa : Nat → Int32) (re : Nat → Int32) (si : Nat → Int32) (lt : Nat → Int32)  (x3 : Int32) (x4 : Int32) (x5 : Int32) : Option (Int32) :=
  if x3 = 0 then
    some 0
  else
    if 0 ≤ x4 then
      some 0
    else
      if 0 ≤ x5 then
        some 0
      else
        some 1
def fb_M_alike_62 (pa : Nat → Int32) (re : Nat → Int32) (si : Nat → Int32) (lt : Nat → Int32) (k32 : Int32 × Int32 × Int32 → Option (Int32)) (x4 : Int32) (x5 : Int32) (y0 : Int32) : Option (Int32) :=
  jv_gd (jv_ig x4 48) <|
  jv_gd (jv_ig x5 48) <|
  k32 (y0, pa x4.toNatClampNeg, pa x5.toNatClampNeg)
def fb_M_alike_32 (pa : Nat → Int32) (re : Nat → Int32) (si : Nat → Int32) (lt : Nat → Int32)  (k32 : Int32 × Int32 × Int32 → Option (Int32)) (x3 : Int32) (x4 : Int32) (x5 : Int32) : Option (Int32) :=
  if x4 < 0 then
    fb_M_alike_84 pa re si lt x3 x4 x5
  else
    if x5 < 0 then
      fb_M_alike_84 pa re si lt x3 x4 x5
    else
      if x3 = 0 then
        fb_M_alike_62 pa re si lt k32 x4 x5 0
      else
        Option.bind (fn_M_sameName si lt x4 x5) fun o_51 =>
        if o_51 = 0 then
          fb_M_alike_62 pa re si lt k32 x4 x5 0
        else
          fb_M_alike_62 pa re si lt k32 x4 x5 1
def fl_M_alike_32 (pa : Nat → Int32) (re : Nat → Int32) (si : Nat → Int32) (lt : Nat → Int32)  : Nat → Int32 × Int32 × Int32 → Option (Int32) := jv_lp (fun k z => fb_M_alike_32 pa re si lt  k z.1 z.2.1 z.2.2)
def fn_M_alike (pa : Nat → Int32) (re : Nat → Int32) (si : Nat → Int32) (lt : Nat → Int32)  (x1 : Int32) (x2 : Int32) : Option (Int32) :=
  jv_gd (jv_ig x1 48) <|
  if 4 ≤ (re x1.toNatClampNeg) then
    fl_M_alike_32 pa re si lt 4000 (0, x1, x2)
  else
    jv_gd (jv_ig x2 48) <|
    if 4 ≤ (re x2.toNatClampNeg) then
      fl_M_alike_32 pa re si lt 4000 (0, x1, x2)
    else
      fl_M_alike_32 pa re si lt 4000 (1, x1, x2)
def fb_M_attempts_24 (cu : Nat → Int32) (pa : Nat → Int32) (re : Nat → Int32) (si : Nat → Int32) (lt : Nat → Int32)  (k24 : Int32 × Int32 × Int32 → Option (Int32)) (x1 : Int32) (x2 : Int32) (x3 : Int32) : Option (Int32) :=
  jv_gd (jv_ig 0 2) <|
  if (cu (0 : Int32).toNatClampNeg) ≤ x3 then
    some x2
  else
    Option.bind (fn_M_alike pa re si lt x3 x1) fun o_38 =>
    if o_38 = 0 then
      k24 (x1, x2 + 0, x3 + 1)
    else
      k24 (x1, x2 + 1, x3 + 1)
def fl_M_attempts_24 (cu : Nat → Int32) (pa : Nat → Int32) (re : Nat → Int32) (si : Nat → Int32) (lt : Nat → Int32)  : Nat → Int32 × Int32 × Int32 → Option (Int32) := jv_lp (fun k z => fb_M_attempts_24 cu pa re si lt  k z.1 z.2.1 z.2.2)
def fn_M_attempts (cu : Nat → Int32) (pa : Nat → Int32) (re : Nat → Int32) (si : Nat → Int32) (lt : Nat → Int32)  (x1 : Int32) : Option (Int32) :=
  Option.bind (fn_M_node cu x1) fun o_2 =>
  if o_2 = 0 then
    some (-1)
  else
    jv_gd (jv_ig x1 48) <|
    if (re x1.toNatClampNeg) = 4 then
      some (-1)
    else
      fl_M_attempts_24 cu pa re si lt 4000 (x1, 0, 0)
def fb_M_flaky_75 (cu : Nat → Int32) (pa : Nat → Int32) (re : Nat → Int32) (si : Nat → Int32) (lt : Nat → Int32) (k27 : Int32 × Int32 × Int32 × Int32 → Option (Int32)) (x1 : Int32) (x2 : Int32) (x4 : Int32) (x5 : Int32) (y0 : Int32) : Option (Int32) :=
  if x2 = 0 then
    if x5 = 0 then
      k27 (x1, 0, y0, x4 + 1)
    else
      jv_gd (jv_ig x4 48) <|
      if (re x4.toNatClampNeg) = 1 then
        k27 (x1, 1, y0, x4 + 1)
      else
        k27 (x1, 0, y0, x4 + 1)
  else
    k27 (x1, 1, y0, x4 + 1)
def fb_M_flaky_27 (cu : Nat → Int32) (pa : Nat → Int32) (re : Nat → Int32) (si : Nat → Int32) (lt : Nat → Int32)  (k27 : Int32 × Int32 × Int32 × Int32 → Option (Int32)) (x1 : Int32) (x2 : Int32) (x3 : Int32) (x4 : Int32) : Option (Int32) :=
  jv_gd (jv_ig 0 2) <|
  if (cu (0 : Int32).toNatClampNeg) ≤ x4 then
    jv_gd (jv_zb x3) <|
    some x3
  else
    Option.bind (fn_M_alike pa re si lt x4 x1) fun o_42 =>
    if x3 = 0 then
      if o_42 = 0 then
        fb_M_flaky_75 cu pa re si lt k27 x1 x2 x4 o_42 0
      else
        if x2 = 0 then
          fb_M_flaky_75 cu pa re si lt k27 x1 x2 x4 o_42 0
        else
          jv_gd (jv_ig x4 48) <|
          if (re x4.toNatClampNeg) = 0 then
            fb_M_flaky_75 cu pa re si lt k27 x1 x2 x4 o_42 1
          else
            fb_M_flaky_75 cu pa re si lt k27 x1 x2 x4 o_42 0
    else
      fb_M_flaky_75 cu pa re si lt k27 x1 x2 x4 o_42 1
def fl_M_flaky_27 (cu : Nat → Int32) (pa : Nat → Int32) (re : Nat → Int32) (si : Nat → Int32) (lt : Nat → Int32)  : Nat → Int32 × Int32 × Int32 × Int32 → Option (Int32) := jv_lp (fun k z => fb_M_flaky_27 cu pa re si lt  k z.1 z.2.1 z.2.2.1 z.2.2.2)
def fn_M_flaky (cu : Nat → Int32) (pa : Nat → Int32) (re : Nat → Int32) (si : Nat → Int32) (lt : Nat → Int32)  (x1 : Int32) : Option (Int32) :=
  Option.bind (fn_M_node cu x1) fun o_2 =>
  if o_2 = 0 then
    some 0
  else
    jv_gd (jv_ig x1 48) <|
    if (re x1.toNatClampNeg) = 4 then
      some 0
    else
      fl_M_flaky_27 cu pa re si lt 4000 (x1, 0, 0, 0)
def fb_C_skipNumber_17 (le : Int32) (ch : Nat → Int32)  (sp : Int32) (x1 : Int32) : Option (Int32 × Int32) :=
  Option.bind (fn_C_skipDigit le ch sp (x1 - x1 / 10 * 10)) fun o_22 =>
  if o_22.1 = 0 then
    some (0, o_22.2)
  else
    some (1, o_22.2)
def fn_C_skipNumber (le : Int32) (ch : Nat → Int32) (sp : Int32) (x1 : Int32) : Option (Int32 × Int32) :=
  if x1 < 10 then
    fb_C_skipNumber_17 le ch sp x1
  else
    Option.bind (fn_C_skipDigit le ch sp (x1 / 10)) fun o_11 =>
    if o_11.1 = 0 then
      some (0, o_11.2)
    else
      fb_C_skipNumber_17 le ch o_11.2 x1
def fb_C_takeName_4 (le : Int32) (ch : Nat → Int32)  (k4 : Int32 × Int64 × Int32 → Option (Int64 × Int32)) (sp : Int32) (x1 : Int64) (x3 : Int32) : Option (Int64 × Int32) :=
  if 6 ≤ x3 then
    some (x1, sp)
  else
    Option.bind (fn_C_takeLetter le ch sp) fun o_11 =>
    if o_11.1 = 0 then
      some (x1, o_11.2)
    else
      Option.bind (fn_N_withLetter x1 x3 o_11.1) fun o_27 =>
      k4 (o_11.2, o_27, x3 + 1)
def fl_C_takeName_4 (le : Int32) (ch : Nat → Int32)  : Nat → Int32 × Int64 × Int32 → Option (Int64 × Int32) := jv_lp (fun k z => fb_C_takeName_4 le ch  k z.1 z.2.1 z.2.2)
def fn_C_takeName (le : Int32) (ch : Nat → Int32) (sp : Int32)  : Option (Int64 × Int32) :=
  fl_C_takeName_4 le ch 4000 (sp, 0, 0)
def fb_N_sizeOf_2   (k2 : Int64 × Int32 → Option (Int32)) (x0 : Int64) (x2 : Int32) : Option (Int32) :=
  if 6 ≤ x2 then
    some x2
  else
    Option.bind (fn_N_codeAt x0 x2) fun o_10 =>
    if o_10 = 0 then
      some x2
    else
      k2 (x0, x2 + 1)
def fl_N_sizeOf_2   : Nat → Int64 × Int32 → Option (Int32) := jv_lp (fun k z => fb_N_sizeOf_2   k z.1 z.2)
def fn_N_sizeOf   (x0 : Int64) : Option (Int32) :=
  fl_N_sizeOf_2 4000 (x0, 0)
def fb_P_addWritten_44  (k8 : Int32 × (Nat → Int32) × Int64 × Int32 × Int32 → Option (Int32 × (Nat → Int32))) (zp : Int32) (ch : Nat → Int32) (x1 : Int64) (x3 : Int32) (x4 : Int32) (x5 : Int32) : Option (Int32 × (Nat → Int32)) :=
  Option.bind (fn_P_add zp ch x5) fun o_47 =>
  k8 (o_47.2.1, o_47.2.2, x1, x3, x4 + 1)
def fb_P_addWritten_8   (k8 : Int32 × (Nat → Int32) × Int64 × Int32 × Int32 → Option (Int32 × (Nat → Int32))) (zp : Int32) (ch : Nat → Int32) (x1 : Int64) (x3 : Int32) (x4 : Int32) : Option (Int32 × (Nat → Int32)) :=
  if x3 ≤ x4 then
    some (zp, ch)
  else
    Option.bind (fn_N_codeAt x1 x4) fun o_17 =>
    if ((o_17.toUInt32 % 65536).toInt32) = 92 then
      Option.bind (fn_P_add zp ch 92) fun o_40 =>
      fb_P_addWritten_44 k8 o_40.2.1 o_40.2.2 x1 x3 x4 ((o_17.toUInt32 % 65536).toInt32)
    else
      if ((o_17.toUInt32 % 65536).toInt32) = 35 then
        Option.bind (fn_P_add zp ch 92) fun o_40 =>
        fb_P_addWritten_44 k8 o_40.2.1 o_40.2.2 x1 x3 x4 ((o_17.toUInt32 % 65536).toInt32)
      else
        fb_P_addWritten_44 k8 zp ch x1 x3 x4 ((o_17.toUInt32 % 65536).toInt32)
def fl_P_addWritten_8   : Nat → Int32 × (Nat → Int32) × Int64 × Int32 × Int32 → Option (Int32 × (Nat → Int32)) := jv_lp (fun k z => fb_P_addWritten_8   k z.1 z.2.1 z.2.2.1 z.2.2.2.1 z.2.2.2.2)
def fn_P_addWritten  (zp : Int32) (ch : Nat → Int32) (x1 : Int64) : Option (Int32 × (Nat → Int32)) :=
  Option.bind (fn_N_sizeOf x1) fun o_1 =>
  fl_P_addWritten_8 4000 (zp, ch, x1, o_1, 0)
def fn_W_writeSubtest (ct : Int32) (dp : Nat → Int32) (nm : Nat → Int64) (zp : Int32) (ch : Nat → Int32) (x1 : Int32) : Option (Int32 × (Nat → Int32)) :=
  Option.bind (fn_R_depthOf ct dp x1) fun o_9 =>
  Option.bind (fn_P_addIndent zp ch o_9) fun o_12 =>
  Option.bind (fn_P_addText o_12.1 o_12.2 2) fun o_21 =>
  Option.bind (fn_R_nameOf ct nm x1) fun o_33 =>
  Option.bind (fn_P_addWritten o_21.1 o_21.2 o_33) fun o_36 =>
  Option.bind (fn_P_add o_36.1 o_36.2 10) fun o_45 =>
  some (o_45.2.1, o_45.2.2)
def fn_R_rowSize (ct : Int32) (su : Nat → Int32)  (x1 : Int32) : Option (Int32) :=
  Option.bind (fn_R_countInRow ct su x1 ct) fun o_6 =>
  some o_6
def fn_R_placeOf (ct : Int32) (su : Nat → Int32)  (x1 : Int32) : Option (Int32) :=
  Option.bind (fn_R_has ct x1) fun o_2 =>
  if o_2 = 0 then
    some (-1)
  else
    jv_gd (jv_ig x1 24) <|
    Option.bind (fn_R_countInRow ct su (su x1.toNatClampNeg) (x1 + 1)) fun o_18 =>
    some o_18
def fb_R_closeLastOpen_37 (ct : Int32) (su : Nat → Int32)  (lo : Int32) (oc : Int32) (kd : Nat → Int32) (y1 : Int32) (y2 : Int32) : Option (Int32 × Int32 × Int32 × (Nat → Int32)) :=
  jv_gd (jv_ig y1 24) <|
  jv_gd (jv_ig lo 24) <|
  some (1, su lo.toNatClampNeg, oc - 1, upd kd y1.toNatClampNeg y2)
def fn_R_closeLastOpen (ct : Int32) (su : Nat → Int32) (lo : Int32) (oc : Int32) (kd : Nat → Int32)  : Option (Int32 × Int32 × Int32 × (Nat → Int32)) :=
  Option.bind (fn_R_has ct lo) fun o_5 =>
  if o_5 = 0 then
    some (0, lo, oc, kd)
  else
    Option.bind (fn_R_hasFailedBehind ct kd lo) fun o_26 =>
    if o_26 = 0 then
      fb_R_closeLastOpen_37 ct su lo oc kd lo 4
    else
      fb_R_closeLastOpen_37 ct su lo oc kd lo 5
def fn_V_letter  (bn : Int64) (x1 : Int32) : Option (Int32 × Int64) :=
  Option.bind (fn_N_sizeOf bn) fun o_4 =>
  Option.bind (fn_V_isPlain x1) fun o_9 =>
  if o_9 = 0 then
    some (0, bn)
  else
    if o_4 < 6 then
      Option.bind (fn_N_withLetter bn o_4 x1) fun o_30 =>
      some (1, o_30)
    else
      some (0, bn)
def fn_V_open  (bn : Int64) (ct : Int32) (lo : Int32) (oc : Int32) (kd : Nat → Int32) (dp : Nat → Int32) (su : Nat → Int32) (nm : Nat → Int64)  : Option (Int32 × Int64 × Int32 × Int32 × Int32 × (Nat → Int32) × (Nat → Int32) × (Nat → Int32) × (Nat → Int64)) :=
  Option.bind (fn_V_addWithBegunName bn ct lo oc kd dp su nm 6) fun o_3 =>
  some (o_3.1, o_3.2.1, o_3.2.2.1, o_3.2.2.2.1, o_3.2.2.2.2.1, o_3.2.2.2.2.2.1, o_3.2.2.2.2.2.2.1, o_3.2.2.2.2.2.2.2.1, o_3.2.2.2.2.2.2.2.2)
def fn_V_close (ct : Int32) (su : Nat → Int32) (lo : Int32) (oc : Int32) (kd : Nat → Int32)  : Option (Int32 × Int32 × Int32 × (Nat → Int32)) :=
  Option.bind (fn_R_closeLastOpen ct su lo oc kd) fun o_4 =>
  jv_gd (jv_zb o_4.1) <|
  some (o_4.1, o_4.2.1, o_4.2.2.1, o_4.2.2.2)
def fn_V_test  (bn : Int64) (ct : Int32) (lo : Int32) (oc : Int32) (kd : Nat → Int32) (dp : Nat → Int32) (su : Nat → Int32) (nm : Nat → Int64) (x1 : Int32) : Option (Int32 × Int64 × Int32 × Int32 × Int32 × (Nat → Int32) × (Nat → Int32) × (Nat → Int32) × (Nat → Int64)) :=
  if x1 < 0 then
    some ((-1), bn, ct, lo, oc, kd, dp, su, nm)
  else
    if x1 ≤ 3 then
      Option.bind (fn_V_addWithBegunName bn ct lo oc kd dp su nm x1) fun o_13 =>
      some (o_13.1, o_13.2.1, o_13.2.2.1, o_13.2.2.2.1, o_13.2.2.2.2.1, o_13.2.2.2.2.2.1, o_13.2.2.2.2.2.2.1, o_13.2.2.2.2.2.2.2.1, o_13.2.2.2.2.2.2.2.2)
    else
      some ((-1), bn, ct, lo, oc, kd, dp, su, nm)
def fn_V_name (ct : Int32) (nm : Nat → Int64)  (x1 : Int32) (x2 : Int32) : Option (Int32) :=
  Option.bind (fn_R_nameOf ct nm x1) fun o_5 =>
  if x2 < 0 then
    some (-1)
  else
    Option.bind (fn_N_sizeOf o_5) fun o_15 =>
    if o_15 ≤ x2 then
      some (-1)
    else
      Option.bind (fn_N_codeAt o_5 x2) fun o_23 =>
      some o_23
def fn_V_put  (zp : Int32) (ch : Nat → Int32) (x1 : Int32) : Option (Int32 × Int32 × (Nat → Int32)) :=
  Option.bind (fn_V_isOfPages x1) fun o_1 =>
  if o_1 = 0 then
    some (0, zp, ch)
  else
    Option.bind (fn_P_add zp ch x1) fun o_12 =>
    if o_12.1 = 0 then
      some (0, o_12.2.1, o_12.2.2)
    else
      some (1, o_12.2.1, o_12.2.2)
def fn_V_poke (zp : Int32) (ch : Nat → Int32) (x1 : Int32) (x2 : Int32) : Option (Int32 × (Nat → Int32)) :=
  Option.bind (fn_V_isOfPages x2) fun o_1 =>
  if o_1 = 0 then
    some (0, ch)
  else
    Option.bind (fn_P_replace zp ch x1 x2) fun o_13 =>
    if o_13.1 = 0 then
      some (0, o_13.2)
    else
      some (1, o_13.2)
def fb_E_takeTest_69 (le : Int32) (ch : Nat → Int32)  (sp : Int32) (ct : Int32) (lo : Int32) (oc : Int32) (kd : Nat → Int32) (dp : Nat → Int32) (su : Nat → Int32) (nm : Nat → Int64) (x5 : Int64) (y0 : Int32) : Option (Int32 × Int32 × Int32 × Int32 × Int32 × (Nat → Int32) × (Nat → Int32) × (Nat → Int32) × (Nat → Int64)) :=
  Option.bind (fn_R_addNode ct lo oc kd dp su nm y0 x5) fun o_79 =>
  if o_79.1 < 0 then
    some (0, sp, o_79.2.1, o_79.2.2.1, o_79.2.2.2.1, o_79.2.2.2.2.1, o_79.2.2.2.2.2.1, o_79.2.2.2.2.2.2.1, o_79.2.2.2.2.2.2.2)
  else
    some (1, sp, o_79.2.1, o_79.2.2.1, o_79.2.2.2.1, o_79.2.2.2.2.1, o_79.2.2.2.2.2.1, o_79.2.2.2.2.2.2.1, o_79.2.2.2.2.2.2.2)
def fn_E_takeTest (le : Int32) (ch : Nat → Int32) (sp : Int32) (ct : Int32) (lo : Int32) (oc : Int32) (kd : Nat → Int32) (dp : Nat → Int32) (su : Nat → Int32) (nm : Nat → Int64) (x1 : Int32) (x2 : Nat) (x3 : Int32) : Option (Int32 × Int32 × Int32 × Int32 × Int32 × (Nat → Int32) × (Nat → Int32) × (Nat → Int32) × (Nat → Int64)) :=
  Option.bind (fn_R_innermost lo) fun o_8 =>
  Option.bind (fn_R_rowSize ct su o_8) fun o_11 =>
  Option.bind (fn_C_skipNumber le ch sp (o_11 + 1)) fun o_24 =>
  if o_24.1 = 0 then
    some (0, o_24.2, ct, lo, oc, kd, dp, su, nm)
  else
    Option.bind (fn_C_skipText le ch o_24.2 5) fun o_36 =>
    if o_36.1 = 0 then
      some (0, o_36.2, ct, lo, oc, kd, dp, su, nm)
    else
      Option.bind (fn_C_takeName le ch o_36.2) fun o_48 =>
      Option.bind (fn_C_skipText le ch o_48.2 x2) fun o_58 =>
      if o_58.1 = 0 then
        fb_E_takeTest_69 le ch o_58.2 ct lo oc kd dp su nm o_48.1 x1
      else
        fb_E_takeTest_69 le ch o_58.2 ct lo oc kd dp su nm o_48.1 x3
def fb_E_takeSuiteEnd_57 (le : Int32) (ch : Nat → Int32) (ct : Int32) (dp : Nat → Int32) (su : Nat → Int32) (nm : Nat → Int64)  (sp : Int32) (lo : Int32) (oc : Int32) (kd : Nat → Int32) (x1 : Int32) (y1 : Nat) : Option (Int32 × Int32 × Int32 × Int32 × (Nat → Int32)) :=
  Option.bind (fn_C_skipText le ch sp y1) fun o_57 =>
  if o_57.1 = 0 then
    some (0, o_57.2, lo, oc, kd)
  else
    Option.bind (fn_R_placeOf ct su x1) fun o_72 =>
    Option.bind (fn_C_skipNumber le ch o_57.2 o_72) fun o_75 =>
    if o_75.1 = 0 then
      some (0, o_75.2, lo, oc, kd)
    else
      Option.bind (fn_C_skipText le ch o_75.2 5) fun o_87 =>
      if o_87.1 = 0 then
        some (0, o_87.2, lo, oc, kd)
      else
        Option.bind (fn_C_takeName le ch o_87.2) fun o_97 =>
        Option.bind (fn_R_nameOf ct nm x1) fun o_105 =>
        if (lg_cmp o_97.1 o_105) = 0 then
          some (1, o_97.2, lo, oc, kd)
        else
          some (0, o_97.2, lo, oc, kd)
def fn_E_takeSuiteEnd (le : Int32) (ch : Nat → Int32) (ct : Int32) (dp : Nat → Int32) (su : Nat → Int32) (nm : Nat → Int64) (sp : Int32) (lo : Int32) (oc : Int32) (kd : Nat → Int32)  : Option (Int32 × Int32 × Int32 × Int32 × (Nat → Int32)) :=
  Option.bind (fn_R_innermost lo) fun o_4 =>
  Option.bind (fn_R_closeLastOpen ct su lo oc kd) fun o_12 =>
  Option.bind (fn_R_depthOf ct dp o_4) fun o_25 =>
  Option.bind (fn_C_skipIndent le ch sp o_25) fun o_28 =>
  if o_28.1 = 0 then
    some (0, o_28.2, o_12.2.1, o_12.2.2.1, o_12.2.2.2)
  else
    Option.bind (fn_R_kindOf ct o_12.2.2.2 o_4) fun o_43 =>
    if o_43 = 4 then
      fb_E_takeSuiteEnd_57 le ch ct dp su nm o_28.2 o_12.2.1 o_12.2.2.1 o_12.2.2.2 o_4 3
    else
      fb_E_takeSuiteEnd_57 le ch ct dp su nm o_28.2 o_12.2.1 o_12.2.2.1 o_12.2.2.2 o_4 4
def fn_W_writePlan (ct : Int32) (dp : Nat → Int32) (su : Nat → Int32) (zp : Int32) (ch : Nat → Int32) (x1 : Int32) : Option (Int32 × (Nat → Int32)) :=
  Option.bind (fn_R_rowDepth ct dp x1) fun o_9 =>
  Option.bind (fn_P_addIndent zp ch o_9) fun o_12 =>
  Option.bind (fn_P_addText o_12.1 o_12.2 8) fun o_21 =>
  Option.bind (fn_R_rowSize ct su x1) fun o_33 =>
  Option.bind (fn_P_addNumber o_21.1 o_21.2 o_33) fun o_36 =>
  Option.bind (fn_P_add o_36.1 o_36.2 10) fun o_45 =>
  some (o_45.2.1, o_45.2.2)
def fn_W_writeVerdict (ct : Int32) (kd : Nat → Int32) (dp : Nat → Int32) (su : Nat → Int32) (nm : Nat → Int64) (zp : Int32) (ch : Nat → Int32) (x1 : Int32) : Option (Int32 × (Nat → Int32)) :=
  Option.bind (fn_R_kindOf ct kd x1) fun o_5 =>
  Option.bind (fn_R_depthOf ct dp x1) fun o_18 =>
  Option.bind (fn_P_addIndent zp ch o_18) fun o_21 =>
  Option.bind (fn_W_verdictOf o_5) fun o_29 =>
  Option.bind (fn_P_addText o_21.1 o_21.2 o_29) fun o_32 =>
  Option.bind (fn_R_placeOf ct su x1) fun o_44 =>
  Option.bind (fn_P_addNumber o_32.1 o_32.2 o_44) fun o_47 =>
  Option.bind (fn_P_addText o_47.1 o_47.2 5) fun o_56 =>
  Option.bind (fn_R_nameOf ct nm x1) fun o_68 =>
  Option.bind (fn_P_addWritten o_56.1 o_56.2 o_68) fun o_71 =>
  Option.bind (fn_W_directiveOf o_5) fun o_79 =>
  Option.bind (fn_P_addText o_71.1 o_71.2 o_79) fun o_82 =>
  Option.bind (fn_P_add o_82.1 o_82.2 10) fun o_91 =>
  some (o_91.2.1, o_91.2.2)
def fb_E_takeRowLine_66 (le : Int32) (ch : Nat → Int32)  (sg : Int32) (sp : Int32) (ct : Int32) (lo : Int32) (oc : Int32) (kd : Nat → Int32) (dp : Nat → Int32) (su : Nat → Int32) (nm : Nat → Int64) (y1 : Int32) : Option (Int32 × Int32 × Int32 × Int32 × Int32 × Int32 × (Nat → Int32) × (Nat → Int32) × (Nat → Int32) × (Nat → Int64)) :=
  Option.bind (fn_R_innermost lo) fun o_81 =>
  Option.bind (fn_R_rowSize ct su o_81) fun o_84 =>
  Option.bind (fn_C_skipNumber le ch sp o_84) fun o_87 =>
  jv_gd (jv_zb o_87.1) <|
  some (o_87.1, y1, o_87.2, ct, lo, oc, kd, dp, su, nm)
def fb_E_takeRowLine_31 (le : Int32) (ch : Nat → Int32)  (sg : Int32) (sp : Int32) (ct : Int32) (lo : Int32) (oc : Int32) (kd : Nat → Int32) (dp : Nat → Int32) (su : Nat → Int32) (nm : Nat → Int64) (x1 : Int32) : Option (Int32 × Int32 × Int32 × Int32 × Int32 × Int32 × (Nat → Int32) × (Nat → Int32) × (Nat → Int32) × (Nat → Int64)) :=
  Option.bind (fn_C_skipIndent le ch sp x1) fun o_36 =>
  if o_36.1 = 0 then
    some (0, sg, o_36.2, ct, lo, oc, kd, dp, su, nm)
  else
    Option.bind (fn_C_skipText le ch o_36.2 8) fun o_50 =>
    if o_50.1 = 0 then
      Option.bind (fn_C_skipText le ch o_50.2 2) fun o_97 =>
      if o_97.1 = 0 then
        Option.bind (fn_C_skipText le ch o_97.2 3) fun o_134 =>
        if o_134.1 = 0 then
          Option.bind (fn_C_skipText le ch o_134.2 4) fun o_155 =>
          if o_155.1 = 0 then
            some (0, sg, o_155.2, ct, lo, oc, kd, dp, su, nm)
          else
            Option.bind (fn_E_takeTest le ch o_155.2 ct lo oc kd dp su nm 1 7 3) fun o_166 =>
            if o_166.1 = 0 then
              some (0, sg, o_166.2.1, o_166.2.2.1, o_166.2.2.2.1, o_166.2.2.2.2.1, o_166.2.2.2.2.2.1, o_166.2.2.2.2.2.2.1, o_166.2.2.2.2.2.2.2.1, o_166.2.2.2.2.2.2.2.2)
            else
              some (1, sg, o_166.2.1, o_166.2.2.1, o_166.2.2.2.1, o_166.2.2.2.2.1, o_166.2.2.2.2.2.1, o_166.2.2.2.2.2.2.1, o_166.2.2.2.2.2.2.2.1, o_166.2.2.2.2.2.2.2.2)
        else
          Option.bind (fn_E_takeTest le ch o_134.2 ct lo oc kd dp su nm 0 6 2) fun o_145 =>
          jv_gd (jv_zb o_145.1) <|
          some (o_145.1, sg, o_145.2.1, o_145.2.2.1, o_145.2.2.2.1, o_145.2.2.2.2.1, o_145.2.2.2.2.2.1, o_145.2.2.2.2.2.2.1, o_145.2.2.2.2.2.2.2.1, o_145.2.2.2.2.2.2.2.2)
      else
        Option.bind (fn_C_takeName le ch o_97.2) fun o_113 =>
        Option.bind (fn_R_addNode ct lo oc kd dp su nm 6 o_113.1) fun o_116 =>
        if o_116.1 < 0 then
          some (0, sg, o_113.2, o_116.2.1, o_116.2.2.1, o_116.2.2.2.1, o_116.2.2.2.2.1, o_116.2.2.2.2.2.1, o_116.2.2.2.2.2.2.1, o_116.2.2.2.2.2.2.2)
        else
          some (1, sg, o_113.2, o_116.2.1, o_116.2.2.1, o_116.2.2.2.1, o_116.2.2.2.2.1, o_116.2.2.2.2.2.1, o_116.2.2.2.2.2.2.1, o_116.2.2.2.2.2.2.2)
    else
      if x1 ≤ 0 then
        fb_E_takeRowLine_66 le ch sg o_50.2 ct lo oc kd dp su nm 3
      else
        fb_E_takeRowLine_66 le ch sg o_50.2 ct lo oc kd dp su nm 2
def fn_E_takeRowLine (le : Int32) (ch : Nat → Int32) (sg : Int32) (sp : Int32) (ct : Int32) (lo : Int32) (oc : Int32) (kd : Nat → Int32) (dp : Nat → Int32) (su : Nat → Int32) (nm : Nat → Int64)  : Option (Int32 × Int32 × Int32 × Int32 × Int32 × Int32 × (Nat → Int32) × (Nat → Int32) × (Nat → Int32) × (Nat → Int64)) :=
  Option.bind (fn_R_openSuites oc) fun o_4 =>
  if o_4 ≤ 0 then
    fb_E_takeRowLine_31 le ch sg sp ct lo oc kd dp su nm o_4
  else
    Option.bind (fn_C_skipText le ch sp 9) fun o_18 =>
    if o_18.1 = 0 then
      fb_E_takeRowLine_31 le ch sg o_18.2 ct lo oc kd dp su nm o_4
    else
      some (1, 3, o_18.2, ct, lo, oc, kd, dp, su, nm)
def fb_W_endSuites_5 (ct : Int32) (kd : Nat → Int32) (dp : Nat → Int32) (su : Nat → Int32) (nm : Nat → Int64)  (k5 : Int32 × (Nat → Int32) × Int32 × Int32 × Int32 → Option (Int32 × (Nat → Int32))) (zp : Int32) (ch : Nat → Int32) (x2 : Int32) (x3 : Int32) (x4 : Int32) : Option (Int32 × (Nat → Int32)) :=
  if 3 ≤ x4 then
    some (zp, ch)
  else
    if x3 = x2 then
      some (zp, ch)
    else
      Option.bind (fn_W_writePlan ct dp su zp ch x3) fun o_18 =>
      Option.bind (fn_W_writeVerdict ct kd dp su nm o_18.1 o_18.2 x3) fun o_23 =>
      Option.bind (fn_R_suiteOf ct su x3) fun o_31 =>
      k5 (o_23.1, o_23.2, x2, o_31, x4 + 1)
def fl_W_endSuites_5 (ct : Int32) (kd : Nat → Int32) (dp : Nat → Int32) (su : Nat → Int32) (nm : Nat → Int64)  : Nat → Int32 × (Nat → Int32) × Int32 × Int32 × Int32 → Option (Int32 × (Nat → Int32)) := jv_lp (fun k z => fb_W_endSuites_5 ct kd dp su nm  k z.1 z.2.1 z.2.2.1 z.2.2.2.1 z.2.2.2.2)
def fn_W_endSuites (ct : Int32) (kd : Nat → Int32) (dp : Nat → Int32) (su : Nat → Int32) (nm : Nat → Int64) (zp : Int32) (ch : Nat → Int32) (x1 : Int32) (x2 : Int32) : Option (Int32 × (Nat → Int32)) :=
  fl_W_endSuites_5 ct kd dp su nm 4000 (zp, ch, x2, x1, 0)
def fn_W_writeEnd (ct : Int32) (oc : Int32) (dp : Nat → Int32) (su : Nat → Int32) (zp : Int32) (ch : Nat → Int32)  : Option (Int32 × (Nat → Int32)) :=
  Option.bind (fn_R_openSuites oc) fun o_4 =>
  if o_4 = 0 then
    Option.bind (fn_W_writePlan ct dp su zp ch (-1)) fun o_12 =>
    some (o_12.1, o_12.2)
  else
    Option.bind (fn_P_addText zp ch 9) fun o_24 =>
    Option.bind (fn_P_add o_24.1 o_24.2 10) fun o_33 =>
    some (o_33.2.1, o_33.2.2)
def fn_E_takeLine (le : Int32) (ch : Nat → Int32) (sg : Int32) (sp : Int32) (ct : Int32) (lo : Int32) (oc : Int32) (kd : Nat → Int32) (dp : Nat → Int32) (su : Nat → Int32) (nm : Nat → Int64)  : Option (Int32 × Int32 × Int32 × Int32 × Int32 × Int32 × (Nat → Int32) × (Nat → Int32) × (Nat → Int32) × (Nat → Int64)) :=
  if sg = 0 then
    Option.bind (fn_C_skipText le ch sp 0) fun o_43 =>
    jv_gd (jv_zb o_43.1) <|
    some (o_43.1, 1, o_43.2, ct, lo, oc, kd, dp, su, nm)
  else
  if sg = 1 then
    Option.bind (fn_E_takeRowLine le ch sg sp ct lo oc kd dp su nm) fun o_48 =>
    jv_gd (jv_zb o_48.1) <|
    some (o_48.1, o_48.2.1, o_48.2.2.1, o_48.2.2.2.1, o_48.2.2.2.2.1, o_48.2.2.2.2.2.1, o_48.2.2.2.2.2.2.1, o_48.2.2.2.2.2.2.2.1, o_48.2.2.2.2.2.2.2.2.1, o_48.2.2.2.2.2.2.2.2.2)
  else
  if sg = 2 then
    Option.bind (fn_E_takeSuiteEnd le ch ct dp su nm sp lo oc kd) fun o_58 =>
    jv_gd (jv_zb o_58.1) <|
    some (o_58.1, 1, o_58.2.1, ct, o_58.2.2.1, o_58.2.2.2.1, o_58.2.2.2.2, dp, su, nm)
  else
    some (0, sg, sp, ct, lo, oc, kd, dp, su, nm)
def fb_W_writeAll_32 (ct : Int32) (lo : Int32) (oc : Int32) (kd : Nat → Int32) (dp : Nat → Int32) (su : Nat → Int32) (nm : Nat → Int64)  (k32 : Int32 × (Nat → Int32) × Int32 × Int32 → Option (Int32 × (Nat → Int32))) (zp : Int32) (ch : Nat → Int32) (x1 : Int32) (x2 : Int32) : Option (Int32 × (Nat → Int32)) :=
  Option.bind (fn_R_size ct) fun o_37 =>
  if o_37 ≤ x2 then
    Option.bind (fn_R_innermost lo) fun o_103 =>
    Option.bind (fn_W_endSuites ct kd dp su nm zp ch x1 o_103) fun o_106 =>
    Option.bind (fn_W_writeEnd ct oc dp su o_106.1 o_106.2) fun o_110 =>
    some (o_110.1, o_110.2)
  else
    Option.bind (fn_R_suiteOf ct su x2) fun o_50 =>
    Option.bind (fn_W_endSuites ct kd dp su nm zp ch x1 o_50) fun o_53 =>
    Option.bind (fn_R_isTest ct kd x2) fun o_61 =>
    if o_61 = 0 then
      Option.bind (fn_W_writeSubtest ct dp nm o_53.1 o_53.2 x2) fun o_86 =>
      k32 (o_86.1, o_86.2, x2, x2 + 1)
    else
      Option.bind (fn_W_writeVerdict ct kd dp su nm o_53.1 o_53.2 x2) fun o_69 =>
      Option.bind (fn_R_suiteOf ct su x2) fun o_77 =>
      k32 (o_69.1, o_69.2, o_77, x2 + 1)
def fl_W_writeAll_32 (ct : Int32) (lo : Int32) (oc : Int32) (kd : Nat → Int32) (dp : Nat → Int32) (su : Nat → Int32) (nm : Nat → Int64)  : Nat → Int32 × (Nat → Int32) × Int32 × Int32 → Option (Int32 × (Nat → Int32)) := jv_lp (fun k z => fb_W_writeAll_32 ct lo oc kd dp su nm  k z.1 z.2.1 z.2.2.1 z.2.2.2)
def fn_W_writeAll (ct : Int32) (lo : Int32) (oc : Int32) (kd : Nat → Int32) (dp : Nat → Int32) (su : Nat → Int32) (nm : Nat → Int64) (zp : Int32) (ch : Nat → Int32)  : Option (Int32 × (Nat → Int32)) :=
  Option.bind (fn_P_shorten zp 0) fun o_5 =>
  Option.bind (fn_P_addText o_5.2 ch 0) fun o_15 =>
  Option.bind (fn_P_add o_15.1 o_15.2 10) fun o_24 =>
  fl_W_writeAll_32 ct lo oc kd dp su nm 4000 (o_24.2.1, o_24.2.2, (-1), 0)
def fn_V_write (ct : Int32) (lo : Int32) (oc : Int32) (kd : Nat → Int32) (dp : Nat → Int32) (su : Nat → Int32) (nm : Nat → Int64) (zp : Int32) (ch : Nat → Int32)  : Option (Int32 × Int32 × (Nat → Int32)) :=
  Option.bind (fn_W_init ) fun o_12 =>
  Option.bind (fn_W_writeAll ct lo oc kd dp su nm zp ch) fun o_15 =>
  Option.bind (fn_P_size o_15.1) fun o_22 =>
  some (o_22, o_15.1, o_15.2)
def fb_E_readAll_62 (cz : Int32) (ch : Nat → Int32)  (sg : Int32) (sp : Int32) (le : Int32) (ct : Int32) (lo : Int32) (oc : Int32) (kd : Nat → Int32) (dp : Nat → Int32) (su : Nat → Int32) (nm : Nat → Int64) (x1 : Int32) : Option (Int32 × Int32 × Int32 × Int32 × Int32 × Int32 × Int32 × (Nat → Int32) × (Nat → Int32) × (Nat → Int32) × (Nat → Int64)) :=
  if sg = 3 then
    some (0, sg, sp, le, ct, lo, oc, kd, dp, su, nm)
  else
    some (-x1, sg, sp, le, ct, lo, oc, kd, dp, su, nm)
def fb_E_readAll_9 (cz : Int32) (ch : Nat → Int32)  (k9 : Int32 × Int32 × Int32 × Int32 × Int32 × Int32 × (Nat → Int32) × (Nat → Int32) × (Nat → Int32) × (Nat → Int64) × Int32 → Option (Int32 × Int32 × Int32 × Int32 × Int32 × Int32 × Int32 × (Nat → Int32) × (Nat → Int32) × (Nat → Int32) × (Nat → Int64))) (sg : Int32) (sp : Int32) (le : Int32) (ct : Int32) (lo : Int32) (oc : Int32) (kd : Nat → Int32) (dp : Nat → Int32) (su : Nat → Int32) (nm : Nat → Int64) (x1 : Int32) : Option (Int32 × Int32 × Int32 × Int32 × Int32 × Int32 × Int32 × (Nat → Int32) × (Nat → Int32) × (Nat → Int32) × (Nat → Int64)) :=
  if 3000 < x1 then
    fb_E_readAll_62 cz ch sg sp le ct lo oc kd dp su nm x1
  else
    Option.bind (fn_C_isBehindLastLine cz le) fun o_20 =>
    if o_20 = 0 then
      Option.bind (fn_C_goToNextLine cz ch sp le) fun o_30 =>
      if o_30.1 = 0 then
        some (-x1, sg, o_30.2.1, o_30.2.2, ct, lo, oc, kd, dp, su, nm)
      else
        Option.bind (fn_E_takeLine o_30.2.2 ch sg o_30.2.1 ct lo oc kd dp su nm) fun o_37 =>
        if o_37.1 = 0 then
          some (-x1, o_37.2.1, o_37.2.2.1, o_30.2.2, o_37.2.2.2.1, o_37.2.2.2.2.1, o_37.2.2.2.2.2.1, o_37.2.2.2.2.2.2.1, o_37.2.2.2.2.2.2.2.1, o_37.2.2.2.2.2.2.2.2.1, o_37.2.2.2.2.2.2.2.2.2)
        else
          Option.bind (fn_C_isAtLineEnd o_37.2.2.1 o_30.2.2) fun o_47 =>
          if o_47 = 0 then
            some (-x1, o_37.2.1, o_37.2.2.1, o_30.2.2, o_37.2.2.2.1, o_37.2.2.2.2.1, o_37.2.2.2.2.2.1, o_37.2.2.2.2.2.2.1, o_37.2.2.2.2.2.2.2.1, o_37.2.2.2.2.2.2.2.2.1, o_37.2.2.2.2.2.2.2.2.2)
          else
            k9 (o_37.2.1, o_37.2.2.1, o_30.2.2, o_37.2.2.2.1, o_37.2.2.2.2.1, o_37.2.2.2.2.2.1, o_37.2.2.2.2.2.2.1, o_37.2.2.2.2.2.2.2.1, o_37.2.2.2.2.2.2.2.2.1, o_37.2.2.2.2.2.2.2.2.2, x1 + 1)
    else
      fb_E_readAll_62 cz ch sg sp le ct lo oc kd dp su nm x1
def fl_E_readAll_9 (cz : Int32) (ch : Nat → Int32)  : Nat → Int32 × Int32 × Int32 × Int32 × Int32 × Int32 × (Nat → Int32) × (Nat → Int32) × (Nat → Int32) × (Nat → Int64) × Int32 → Option (Int32 × Int32 × Int32 × Int32 × Int32 × Int32 × Int32 × (Nat → Int32) × (Nat → Int32) × (Nat → Int32) × (Nat → Int64)) := jv_lp (fun k z => fb_E_readAll_9 cz ch  k z.1 z.2.1 z.2.2.1 z.2.2.2.1 z.2.2.2.2.1 z.2.2.2.2.2.1 z.2.2.2.2.2.2.1 z.2.2.2.2.2.2.2.1 z.2.2.2.2.2.2.2.2.1 z.2.2.2.2.2.2.2.2.2.1 z.2.2.2.2.2.2.2.2.2.2)
def fn_E_readAll (cz : Int32) (ch : Nat → Int32) (sg : Int32) (sp : Int32) (le : Int32) (ct : Int32) (lo : Int32) (oc : Int32) (kd : Nat → Int32) (dp : Nat → Int32) (su : Nat → Int32) (nm : Nat → Int64)  : Option (Int32 × Int32 × Int32 × Int32 × Int32 × Int32 × Int32 × (Nat → Int32) × (Nat → Int32) × (Nat → Int32) × (Nat → Int64)) :=
  Option.bind (fn_R_removeAll ct lo oc) fun o_4 =>
  fl_E_readAll_9 cz ch 4000 (sg, sp, le, o_4.1, o_4.2.1, o_4.2.2, kd, dp, su, nm, 1)
def fn_V_read (zp : Int32) (ch : Nat → Int32) (ct : Int32) (lo : Int32) (oc : Int32) (kd : Nat → Int32) (dp : Nat → Int32) (su : Nat → Int32) (nm : Nat → Int64) (ct2 : Int32) (lo2 : Int32) (oc2 : Int32) (kd2 : Nat → Int32) (dp2 : Nat → Int32) (su2 : Nat → Int32) (nm2 : Nat → Int64)  : Option (Int32 × Int32 × Int32 × Int32 × (Nat → Int32) × (Nat → Int32) × (Nat → Int32) × (Nat → Int64) × Int32 × Int32 × Int32 × (Nat → Int32) × (Nat → Int32) × (Nat → Int32) × (Nat → Int64)) :=
  Option.bind (fn_P_cursor zp) fun o_8 =>
  Option.bind (fn_E_init ) fun o_15 =>
  Option.bind (fn_E_readAll o_8.1 ch o_15 o_8.2.1 o_8.2.2 ct2 lo2 oc2 kd2 dp2 su2 nm2) fun o_18 =>
  if o_18.1 = 0 then
    some (o_18.1, o_18.2.2.2.2.1, o_18.2.2.2.2.2.1, o_18.2.2.2.2.2.2.1, o_18.2.2.2.2.2.2.2.1, o_18.2.2.2.2.2.2.2.2.1, o_18.2.2.2.2.2.2.2.2.2.1, o_18.2.2.2.2.2.2.2.2.2.2, ct, lo, oc, kd, dp, su, nm)
  else
    some (o_18.1, ct, lo, oc, kd, dp, su, nm, o_18.2.2.2.2.1, o_18.2.2.2.2.2.1, o_18.2.2.2.2.2.2.1, o_18.2.2.2.2.2.2.2.1, o_18.2.2.2.2.2.2.2.2.1, o_18.2.2.2.2.2.2.2.2.2.1, o_18.2.2.2.2.2.2.2.2.2.2)
