section
/-! The ground: what a decompiled method is made of (guards, binds, loops with fuel), and the call rows in the form that the text program lays. -/
def jv_gd {α : Type} (b : Bool) (k : Option α) : Option α := if b = true then k else none
theorem jv_gi {α : Type} {b : Bool} {k : Option α} {o : α} (h : jv_gd b k = some o) : b = true ∧ k = some o := by
  unfold jv_gd at h
  by_cases hb : b = true
  · rw [if_pos hb] at h
    exact ⟨hb, h⟩
  · rw [if_neg hb] at h
    cases h
theorem jv_gp {α : Type} {b : Bool} {k : Option α} (h : b = true) : jv_gd b k = k := by
  unfold jv_gd
  rw [if_pos h]
def jv_ig (i : Int32) (n : Nat) : Bool := !(decide (i < 0) || decide (n ≤ i.toNatClampNeg))
theorem jv_in {i : Int32} {n : Nat} (h : jv_ig i n = true) : vp_in i n := by
  unfold jv_ig at h
  unfold vp_in
  intro hc
  rcases hc with hc | hc <;> simp [hc] at h
theorem jv_ni {i : Int32} {n : Nat} (h : vp_in i n) : jv_ig i n = true := by
  unfold vp_in at h
  unfold jv_ig
  by_cases h1 : i < 0
  · exact absurd (Or.inl h1) h
  · by_cases h2 : n ≤ i.toNatClampNeg
    · exact absurd (Or.inr h2) h
    · simp [h1, h2]
def jv_zb (x : Int32) : Bool := decide (x = 0) || decide (x = 1)
theorem jv_zn {x : Int32} (h : jv_zb x = true) : narrow .boolean (.int x) = .int x ∧ fits .boolean (.int x) = true := by
  have h2 : x = 0 ∨ x = 1 := by simpa [jv_zb] using h
  rcases h2 with rfl | rfl <;> exact ⟨rfl, rfl⟩
theorem jv_bi {α β : Type} {o : Option α} {f : α → Option β} {b : β} (h : Option.bind o f = some b) : ∃ a, o = some a ∧ f a = some b := by
  cases o with
  | none => cases h
  | some a => exact ⟨a, rfl, h⟩
theorem jv_t {α : Type} {c : Prop} {i : Decidable c} {A B : Option α} {o : α} (hc : c) (h : (@ite _ c i A B) = some o) : A = some o := by
  rw [if_pos hc] at h
  exact h
theorem jv_f {α : Type} {c : Prop} {i : Decidable c} {A B : Option α} {o : α} (hc : ¬ c) (h : (@ite _ c i A B) = some o) : B = some o := by
  rw [if_neg hc] at h
  exact h
theorem jv_no {α : Type} {o : α} (h : (none : Option α) = some o) : False := by cases h
def jv_lp {σ ρ : Type} (f : (σ → Option ρ) → σ → Option ρ) : Nat → σ → Option ρ
  | 0 => fun _ => none
  | n + 1 => fun z => f (jv_lp f n) z
theorem jv_ls {σ ρ : Type} (f : (σ → Option ρ) → σ → Option ρ) (n : Nat) (z : σ) : jv_lp f (n + 1) z = f (jv_lp f n) z := rfl
def st_tx : List (List Nat) := [[84, 65, 80, 32, 118, 101, 114, 115, 105, 111, 110, 32, 49, 52], [32, 32, 32, 32], [35, 32, 83, 117, 98, 116, 101, 115, 116, 58, 32], [111, 107, 32], [110, 111, 116, 32, 111, 107, 32], [32, 45, 32], [32, 35, 32, 83, 75, 73, 80], [32, 35, 32, 84, 79, 68, 79], [49, 46, 46], [66, 97, 105, 108, 32, 111, 117, 116, 33], []]
def fn_S_length (i : Nat) : Option Int32 := if i < 11 then some (nI (st_tx.getD i []).length) else none
def fn_S_charAt (i : Nat) (j : Int32) : Option Int32 := if i < 11 then jv_gd (jv_ig j (st_tx.getD i []).length) (some (nI ((st_tx.getD i []).getD j.toNatClampNeg 0))) else none
end
section
def fn_C_init   (x2 : Int32) : Option (Int32 × Int32 × Int32) :=
  some (x2, 0, (-1))
def fn_C_isBehindLastLine (cz : Int32) (le : Int32)   : Option (Int32) :=
  if (le + 1) < cz then
    some 0
  else
    some 1
def fb_C_goToNextLine_15 (cz : Int32) (ch : Nat → Int32)  (k15 : Int32 × Int32 × Int32 → Option (Int32 × Int32 × Int32)) (sp : Int32) (le : Int32) (x1 : Int32) : Option (Int32 × Int32 × Int32) :=
  if cz ≤ x1 then
    some (0, sp, cz)
  else
    jv_gd (jv_ig x1 3000) <|
    if (ch x1.toNatClampNeg) = 10 then
      some (1, sp, x1)
    else
      k15 (sp, le, x1 + 1)
def fl_C_goToNextLine_15 (cz : Int32) (ch : Nat → Int32)  : Nat → Int32 × Int32 × Int32 → Option (Int32 × Int32 × Int32) := jv_lp (fun k z => fb_C_goToNextLine_15 cz ch  k z.1 z.2.1 z.2.2)
def fn_C_goToNextLine (cz : Int32) (ch : Nat → Int32) (sp : Int32) (le : Int32)  : Option (Int32 × Int32 × Int32) :=
  fl_C_goToNextLine_15 cz ch 4000 (le + 1, le, le + 1)
def fn_C_isAtLineEnd (sp : Int32) (le : Int32)   : Option (Int32) :=
  if sp = le then
    some 1
  else
    some 0
def fb_C_skipText_20 (le : Int32) (ch : Nat → Int32)  (k20 : Int32 × Nat × Int32 → Option (Int32 × Int32)) (sp : Int32) (x1 : Nat) (x2 : Int32) : Option (Int32 × Int32) :=
  Option.bind (fn_S_length x1) fun o_22 =>
  if o_22 ≤ x2 then
    Option.bind (fn_S_length x1) fun o_61 =>
    some (1, sp + o_61)
  else
    jv_gd (jv_ig (sp + x2) 3000) <|
    Option.bind (fn_S_charAt x1 x2) fun o_41 =>
    if (ch (sp + x2).toNatClampNeg) = o_41 then
      k20 (sp, x1, x2 + 1)
    else
      some (0, sp)
def fl_C_skipText_20 (le : Int32) (ch : Nat → Int32)  : Nat → Int32 × Nat × Int32 → Option (Int32 × Int32) := jv_lp (fun k z => fb_C_skipText_20 le ch  k z.1 z.2.1 z.2.2)
def fn_C_skipText (le : Int32) (ch : Nat → Int32) (sp : Int32) (x1 : Nat) : Option (Int32 × Int32) :=
  Option.bind (fn_S_length x1) fun o_1 =>
  if o_1 ≤ (le - sp) then
    fl_C_skipText_20 le ch 4000 (sp, x1, 0)
  else
    some (0, sp)
def fb_C_skipIndent_2 (le : Int32) (ch : Nat → Int32)  (k2 : Int32 × Int32 × Int32 → Option (Int32 × Int32)) (sp : Int32) (x1 : Int32) (x2 : Int32) : Option (Int32 × Int32) :=
  if x1 ≤ x2 then
    some (1, sp)
  else
    Option.bind (fn_C_skipText le ch sp 1) fun o_10 =>
    if o_10.1 = 0 then
      some (0, o_10.2)
    else
      k2 (o_10.2, x1, x2 + 1)
def fl_C_skipIndent_2 (le : Int32) (ch : Nat → Int32)  : Nat → Int32 × Int32 × Int32 → Option (Int32 × Int32) := jv_lp (fun k z => fb_C_skipIndent_2 le ch  k z.1 z.2.1 z.2.2)
def fn_C_skipIndent (le : Int32) (ch : Nat → Int32) (sp : Int32) (x1 : Int32) : Option (Int32 × Int32) :=
  fl_C_skipIndent_2 le ch 4000 (sp, x1, 0)
def fb_C_takeLetter_84 (le : Int32) (ch : Nat → Int32)  (sp : Int32) (x1 : Int32) (x2 : Int32) : Option (Int32 × Int32) :=
  if x1 = 0 then
    some (0, sp)
  else
    if x1 = 92 then
      some (0, sp)
    else
      if x1 = 35 then
        some (0, sp)
      else
        if x1 = 32 then
          if x2 = 35 then
            some (0, sp)
          else
            some (x1, sp + 1)
        else
          some (x1, sp + 1)
def fb_C_takeLetter_53 (le : Int32) (ch : Nat → Int32)  (sp : Int32) (x1 : Int32) (y0 : Int32) : Option (Int32 × Int32) :=
  if x1 = 92 then
    if y0 = 92 then
      some (y0, sp + 2)
    else
      if y0 = 35 then
        some (y0, sp + 2)
      else
        fb_C_takeLetter_84 le ch sp x1 y0
  else
    fb_C_takeLetter_84 le ch sp x1 y0
def fb_C_takeLetter_24 (le : Int32) (ch : Nat → Int32)  (sp : Int32) (y0 : Int32) : Option (Int32 × Int32) :=
  if le ≤ (sp + 1) then
    fb_C_takeLetter_53 le ch sp y0 0
  else
    jv_gd (jv_ig (sp + 1) 3000) <|
    fb_C_takeLetter_53 le ch sp y0 (ch (sp + 1).toNatClampNeg)
def fn_C_takeLetter (le : Int32) (ch : Nat → Int32) (sp : Int32)  : Option (Int32 × Int32) :=
  if le ≤ sp then
    fb_C_takeLetter_24 le ch sp 0
  else
    jv_gd (jv_ig sp 3000) <|
    fb_C_takeLetter_24 le ch sp (ch sp.toNatClampNeg)
def fn_C_skipDigit (le : Int32) (ch : Nat → Int32) (sp : Int32) (x1 : Int32) : Option (Int32 × Int32) :=
  if le ≤ sp then
    some (0, sp)
  else
    jv_gd (jv_ig sp 3000) <|
    if (ch sp.toNatClampNeg) = (48 + x1) then
      some (1, sp + 1)
    else
      some (0, sp)
def fn_N_codeAt   (x0 : Int64) (x2 : Int32) : Option (Int32) :=
  some ((((x0.toUInt64 >>> ((7 * x2).toInt64.toUInt64 &&& Int64.toUInt64 63)).toInt64).toInt32) &&& 127)
def fn_N_withLetter   (x0 : Int64) (x2 : Int32) (x3 : Int32) : Option (Int64) :=
  some (x0 ||| (x3.toInt64 <<< ((7 * x2).toInt64 &&& 63)))
def fn_P_init    : Option (Int32 × (Nat → Int32)) :=
  some (0, fun _ => 0)
def fn_P_size (sz : Int32)   : Option (Int32) :=
  some sz
def fn_P_codeAt (sz : Int32) (ch : Nat → Int32)  (x1 : Int32) : Option (Int32) :=
  if x1 < 0 then
    some (-1)
  else
    if sz ≤ x1 then
      some (-1)
    else
      jv_gd (jv_ig x1 3000) <|
      some (ch x1.toNatClampNeg)
def fn_P_add  (sz : Int32) (ch : Nat → Int32) (x1 : Int32) : Option (Int32 × Int32 × (Nat → Int32)) :=
  if sz < 3000 then
    jv_gd (jv_ig sz 3000) <|
    some (1, sz + 1, upd ch sz.toNatClampNeg (vp_nar .char x1))
  else
    some (0, sz, ch)
def fn_P_replace (sz : Int32) (ch : Nat → Int32) (x1 : Int32) (x2 : Int32) : Option (Int32 × (Nat → Int32)) :=
  if x1 < 0 then
    some (0, ch)
  else
    if x1 < sz then
      jv_gd (jv_ig x1 3000) <|
      some (1, upd ch x1.toNatClampNeg (vp_nar .char x2))
    else
      some (0, ch)
def fn_P_shorten  (sz : Int32) (x1 : Int32) : Option (Int32 × Int32) :=
  if x1 < 0 then
    some (0, sz)
  else
    if x1 ≤ sz then
      some (1, x1)
    else
      some (0, sz)
def fb_P_addText_2   (k2 : Int32 × (Nat → Int32) × Nat × Int32 → Option (Int32 × (Nat → Int32))) (sz : Int32) (ch : Nat → Int32) (x1 : Nat) (x2 : Int32) : Option (Int32 × (Nat → Int32)) :=
  Option.bind (fn_S_length x1) fun o_4 =>
  if o_4 ≤ x2 then
    some (sz, ch)
  else
    Option.bind (fn_S_charAt x1 x2) fun o_13 =>
    Option.bind (fn_P_add sz ch o_13) fun o_16 =>
    k2 (o_16.2.1, o_16.2.2, x1, x2 + 1)
def fl_P_addText_2   : Nat → Int32 × (Nat → Int32) × Nat × Int32 → Option (Int32 × (Nat → Int32)) := jv_lp (fun k z => fb_P_addText_2   k z.1 z.2.1 z.2.2.1 z.2.2.2)
def fn_P_addText  (sz : Int32) (ch : Nat → Int32) (x1 : Nat) : Option (Int32 × (Nat → Int32)) :=
  fl_P_addText_2 4000 (sz, ch, x1, 0)
def fb_P_addIndent_2   (k2 : Int32 × (Nat → Int32) × Int32 × Int32 → Option (Int32 × (Nat → Int32))) (sz : Int32) (ch : Nat → Int32) (x1 : Int32) (x2 : Int32) : Option (Int32 × (Nat → Int32)) :=
  if x1 ≤ x2 then
    some (sz, ch)
  else
    Option.bind (fn_P_addText sz ch 1) fun o_10 =>
    k2 (o_10.1, o_10.2, x1, x2 + 1)
def fl_P_addIndent_2   : Nat → Int32 × (Nat → Int32) × Int32 × Int32 → Option (Int32 × (Nat → Int32)) := jv_lp (fun k z => fb_P_addIndent_2   k z.1 z.2.1 z.2.2.1 z.2.2.2)
def fn_P_addIndent  (sz : Int32) (ch : Nat → Int32) (x1 : Int32) : Option (Int32 × (Nat → Int32)) :=
  fl_P_addIndent_2 4000 (sz, ch, x1, 0)
def fb_P_addNumber_19   (sz : Int32) (ch : Nat → Int32) (x1 : Int32) : Option (Int32 × (Nat → Int32)) :=
  Option.bind (fn_P_add sz ch (((48 + (x1 - x1 / 10 * 10)).toUInt32 % 65536).toInt32)) fun o_28 =>
  some (o_28.2.1, o_28.2.2)
def fn_P_addNumber  (sz : Int32) (ch : Nat → Int32) (x1 : Int32) : Option (Int32 × (Nat → Int32)) :=
  if x1 < 10 then
    fb_P_addNumber_19 sz ch x1
  else
    Option.bind (fn_P_add sz ch (((48 + (x1 / 10)).toUInt32 % 65536).toInt32)) fun o_15 =>
    fb_P_addNumber_19 o_15.2.1 o_15.2.2 x1
def fn_P_cursor (sz : Int32)   : Option (Int32 × Int32 × Int32) :=
  Option.bind (fn_C_init sz) fun o_12 =>
  some (o_12.1, o_12.2.1, o_12.2.2)
def fn_E_init    : Option (Int32) :=
  some 0
def fn_W_init    : Option (Unit) :=
  some ()
def fn_W_verdictOf   (x0 : Int32) : Option (Nat) :=
  if x0 = 1 then
    some 4
  else
    if x0 = 3 then
      some 4
    else
      if x0 = 5 then
        some 4
      else
        some 3
def fn_W_directiveOf   (x0 : Int32) : Option (Nat) :=
  if x0 = 2 then
    some 6
  else
    if x0 = 3 then
      some 7
    else
      some 10
def fn_R_init    : Option (Int32 × Int32 × Int32 × (Nat → Int32) × (Nat → Int32) × (Nat → Int32) × (Nat → Int64)) :=
  some (0, (-1), 0, fun _ => 0, fun _ => 0, fun _ => 0, fun _ => 0)
def fn_R_removeAll  (ct : Int32) (lo : Int32) (oc : Int32)  : Option (Int32 × Int32 × Int32) :=
  some (0, (-1), 0)
def fn_R_size (ct : Int32)   : Option (Int32) :=
  some ct
def fn_R_has (ct : Int32)  (x1 : Int32) : Option (Int32) :=
  if x1 < 0 then
    some 0
  else
    if ct ≤ x1 then
      some 0
    else
      some 1
def fn_R_isTest (ct : Int32) (kd : Nat → Int32)  (x1 : Int32) : Option (Int32) :=
  Option.bind (fn_R_has ct x1) fun o_2 =>
  if o_2 = 0 then
    some 0
  else
    jv_gd (jv_ig x1 24) <|
    if 3 < (kd x1.toNatClampNeg) then
      some 0
    else
      some 1
def fn_R_kindOf (ct : Int32) (kd : Nat → Int32)  (x1 : Int32) : Option (Int32) :=
  Option.bind (fn_R_has ct x1) fun o_2 =>
  if o_2 = 0 then
    some (-1)
  else
    jv_gd (jv_ig x1 24) <|
    some (kd x1.toNatClampNeg)
def fn_R_depthOf (ct : Int32) (dp : Nat → Int32)  (x1 : Int32) : Option (Int32) :=
  Option.bind (fn_R_has ct x1) fun o_2 =>
  if o_2 = 0 then
    some (-1)
  else
    jv_gd (jv_ig x1 24) <|
    some (dp x1.toNatClampNeg)
def fn_R_suiteOf (ct : Int32) (su : Nat → Int32)  (x1 : Int32) : Option (Int32) :=
  Option.bind (fn_R_has ct x1) fun o_2 =>
  if o_2 = 0 then
    some (-1)
  else
    jv_gd (jv_ig x1 24) <|
    some (su x1.toNatClampNeg)
def fn_R_nameOf (ct : Int32) (nm : Nat → Int64)  (x1 : Int32) : Option (Int64) :=
  Option.bind (fn_R_has ct x1) fun o_2 =>
  if o_2 = 0 then
    some 0
  else
    jv_gd (jv_ig x1 24) <|
    some (nm x1.toNatClampNeg)
def fn_R_innermost (lo : Int32)   : Option (Int32) :=
  some lo
def fn_R_openSuites (oc : Int32)   : Option (Int32) :=
  some oc
def fn_R_rowDepth (ct : Int32) (dp : Nat → Int32)  (x1 : Int32) : Option (Int32) :=
  Option.bind (fn_R_has ct x1) fun o_2 =>
  if o_2 = 0 then
    some 0
  else
    jv_gd (jv_ig x1 24) <|
    some ((dp x1.toNatClampNeg) + 1)
def fb_R_addNode_26   (ct : Int32) (lo : Int32) (oc : Int32) (kd : Nat → Int32) (dp : Nat → Int32) (su : Nat → Int32) (nm : Nat → Int64) (x1 : Int32) (x2 : Int64) : Option (Int32 × Int32 × Int32 × Int32 × (Nat → Int32) × (Nat → Int32) × (Nat → Int32) × (Nat → Int64)) :=
  jv_gd (jv_ig ct 24) <|
  jv_gd (jv_ig ct 24) <|
  jv_gd (jv_ig ct 24) <|
  jv_gd (jv_ig ct 24) <|
  if x1 = 6 then
    some (ct, ct + 1, ct, oc + 1, upd kd ct.toNatClampNeg x1, upd dp ct.toNatClampNeg oc, upd su ct.toNatClampNeg lo, vp_updL nm ct.toNatClampNeg x2)
  else
    some (ct, ct + 1, lo, oc, upd kd ct.toNatClampNeg x1, upd dp ct.toNatClampNeg oc, upd su ct.toNatClampNeg lo, vp_updL nm ct.toNatClampNeg x2)
def fn_R_addNode  (ct : Int32) (lo : Int32) (oc : Int32) (kd : Nat → Int32) (dp : Nat → Int32) (su : Nat → Int32) (nm : Nat → Int64) (x1 : Int32) (x2 : Int64) : Option (Int32 × Int32 × Int32 × Int32 × (Nat → Int32) × (Nat → Int32) × (Nat → Int32) × (Nat → Int64)) :=
  if 24 ≤ ct then
    some ((-2), ct, lo, oc, kd, dp, su, nm)
  else
    if x1 = 6 then
      if oc < 3 then
        fb_R_addNode_26 ct lo oc kd dp su nm x1 x2
      else
        some ((-2), ct, lo, oc, kd, dp, su, nm)
    else
      fb_R_addNode_26 ct lo oc kd dp su nm x1 x2
def fb_R_areAttempts_46 (ct : Int32) (kd : Nat → Int32) (dp : Nat → Int32) (su : Nat → Int32) (nm : Nat → Int64)  (k46 : Int32 × Int32 × Int32 → Option (Int32)) (x3 : Int32) (x4 : Int32) (x5 : Int32) : Option (Int32) :=
  if x5 < 0 then
    some 1
  else
    Option.bind (fn_R_nameOf ct nm x3) fun o_53 =>
    Option.bind (fn_R_nameOf ct nm x4) fun o_59 =>
    if (lg_cmp o_53 o_59) = 0 then
      Option.bind (fn_R_suiteOf ct su x3) fun o_70 =>
      Option.bind (fn_R_suiteOf ct su x4) fun o_77 =>
      k46 (o_70, o_77, x5 + (-1))
    else
      some 0
def fl_R_areAttempts_46 (ct : Int32) (kd : Nat → Int32) (dp : Nat → Int32) (su : Nat → Int32) (nm : Nat → Int64)  : Nat → Int32 × Int32 × Int32 → Option (Int32) := jv_lp (fun k z => fb_R_areAttempts_46 ct kd dp su nm  k z.1 z.2.1 z.2.2)
def fn_R_areAttempts (ct : Int32) (kd : Nat → Int32) (dp : Nat → Int32) (su : Nat → Int32) (nm : Nat → Int64)  (x1 : Int32) (x2 : Int32) : Option (Int32) :=
  Option.bind (fn_R_isTest ct kd x1) fun o_2 =>
  if o_2 = 0 then
    some 0
  else
    Option.bind (fn_R_isTest ct kd x2) fun o_10 =>
    if o_10 = 0 then
      some 0
    else
      jv_gd (jv_ig x1 24) <|
      jv_gd (jv_ig x2 24) <|
      if (dp x1.toNatClampNeg) = (dp x2.toNatClampNeg) then
        jv_gd (jv_ig x1 24) <|
        fl_R_areAttempts_46 ct kd dp su nm 4000 (x1, x2, dp x1.toNatClampNeg)
      else
        some 0
def fb_R_hasFailedBehind_4 (ct : Int32) (kd : Nat → Int32)  (k4 : Int32 → Option (Int32)) (x2 : Int32) : Option (Int32) :=
  if ct ≤ x2 then
    some 0
  else
    jv_gd (jv_ig x2 24) <|
    if (kd x2.toNatClampNeg) = 1 then
      some 1
    else
      k4 (x2 + 1)
def fl_R_hasFailedBehind_4 (ct : Int32) (kd : Nat → Int32)  : Nat → Int32 → Option (Int32) := jv_lp (fun k z => fb_R_hasFailedBehind_4 ct kd  k z)
def fn_R_hasFailedBehind (ct : Int32) (kd : Nat → Int32)  (x1 : Int32) : Option (Int32) :=
  fl_R_hasFailedBehind_4 ct kd 4000 (x1 + 1)
def fb_R_countInRow_5 (ct : Int32) (su : Nat → Int32)  (k5 : Int32 × Int32 × Int32 × Int32 → Option (Int32)) (x1 : Int32) (x2 : Int32) (x3 : Int32) (x4 : Int32) : Option (Int32) :=
  if x2 ≤ x4 then
    some x3
  else
    if ct ≤ x4 then
      some x3
    else
      jv_gd (jv_ig x4 24) <|
      if (su x4.toNatClampNeg) = x1 then
        k5 (x1, x2, x3 + 1, x4 + 1)
      else
        k5 (x1, x2, x3, x4 + 1)
def fl_R_countInRow_5 (ct : Int32) (su : Nat → Int32)  : Nat → Int32 × Int32 × Int32 × Int32 → Option (Int32) := jv_lp (fun k z => fb_R_countInRow_5 ct su  k z.1 z.2.1 z.2.2.1 z.2.2.2)
def fn_R_countInRow (ct : Int32) (su : Nat → Int32)  (x1 : Int32) (x2 : Int32) : Option (Int32) :=
  fl_R_countInRow_5 ct su 4000 (x1, x2, 0, 0)
def fn_V_init    : Option (Int64 × Int32 × (Nat → Int32) × Int32 × Int32 × Int32 × (Nat → Int32) × (Nat → Int32) × (Nat → Int32) × (Nat → Int64) × Int32 × Int32 × Int32 × (Nat → Int32) × (Nat → Int32) × (Nat → Int32) × (Nat → Int64)) :=
  Option.bind (fn_P_init ) fun o_9 =>
  Option.bind (fn_R_init ) fun o_20 =>
  Option.bind (fn_R_init ) fun o_31 =>
  some (0, o_9.1, o_9.2, o_20.1, o_20.2.1, o_20.2.2.1, o_20.2.2.2.1, o_20.2.2.2.2.1, o_20.2.2.2.2.2.1, o_20.2.2.2.2.2.2, o_31.1, o_31.2.1, o_31.2.2.1, o_31.2.2.2.1, o_31.2.2.2.2.1, o_31.2.2.2.2.2.1, o_31.2.2.2.2.2.2)
def fn_V_reset  (ct : Int32) (lo : Int32) (oc : Int32)  : Option (Int32 × Int32 × Int32) :=
  Option.bind (fn_R_removeAll ct lo oc) fun o_4 =>
  some (o_4.1, o_4.2.1, o_4.2.2)
def fn_V_nodes (ct : Int32)   : Option (Int32) :=
  Option.bind (fn_R_size ct) fun o_4 =>
  some o_4
def fn_V_kind (ct : Int32) (kd : Nat → Int32)  (x1 : Int32) : Option (Int32) :=
  Option.bind (fn_R_has ct x1) fun o_5 =>
  if o_5 = 0 then
    some (-1)
  else
    Option.bind (fn_R_kindOf ct kd x1) fun o_16 =>
    some o_16
def fn_V_depth (ct : Int32) (dp : Nat → Int32)  (x1 : Int32) : Option (Int32) :=
  Option.bind (fn_R_has ct x1) fun o_5 =>
  if o_5 = 0 then
    some (-1)
  else
    Option.bind (fn_R_depthOf ct dp x1) fun o_16 =>
    some o_16
def fn_V_length (sz : Int32)   : Option (Int32) :=
  Option.bind (fn_P_size sz) fun o_4 =>
  some o_4
def fn_V_at (sz : Int32) (ch : Nat → Int32)  (x1 : Int32) : Option (Int32) :=
  Option.bind (fn_P_codeAt sz ch x1) fun o_5 =>
  some o_5
def fn_V_cut  (sz : Int32) (x1 : Int32) : Option (Int32 × Int32) :=
  Option.bind (fn_P_shorten sz x1) fun o_5 =>
  jv_gd (jv_zb o_5.1) <|
  some (o_5.1, o_5.2)
def fb_V_attempts_17 (ct : Int32) (kd : Nat → Int32) (dp : Nat → Int32) (su : Nat → Int32) (nm : Nat → Int64)  (k17 : Int32 × Int32 × Int32 → Option (Int32)) (x1 : Int32) (x2 : Int32) (x3 : Int32) : Option (Int32) :=
  Option.bind (fn_R_size ct) fun o_22 =>
  if o_22 ≤ x3 then
    some x2
  else
    Option.bind (fn_R_areAttempts ct kd dp su nm x1 x3) fun o_34 =>
    if o_34 = 0 then
      k17 (x1, x2, x3 + 1)
    else
      k17 (x1, x2 + 1, x3 + 1)
def fl_V_attempts_17 (ct : Int32) (kd : Nat → Int32) (dp : Nat → Int32) (su : Nat → Int32) (nm : Nat → Int64)  : Nat → Int32 × Int32 × Int32 → Option (Int32) := jv_lp (fun k z => fb_V_attempts_17 ct kd dp su nm  k z.1 z.2.1 z.2.2)
def fn_V_attempts (ct : Int32) (kd : Nat → Int32) (dp : Nat → Int32) (su : Nat → Int32) (nm : Nat → Int64)  (x1 : Int32) : Option (Int32) :=
  Option.bind (fn_R_isTest ct kd x1) fun o_5 =>
  if o_5 = 0 then
    some (-1)
  else
    fl_V_attempts_17 ct kd dp su nm 4000 (x1, 0, 0)
def fb_V_flaky_48 (ct : Int32) (kd : Nat → Int32) (dp : Nat → Int32) (su : Nat → Int32) (nm : Nat → Int64) (k4 : Int32 × Int32 × Int32 → Option (Int32)) (x1 : Int32) (x2 : Int32) (x3 : Int32) (x4 : Int32) : Option (Int32) :=
  if x2 = 0 then
    if x4 = 1 then
      k4 (x1, 1, x3 + 1)
    else
      k4 (x1, 0, x3 + 1)
  else
    k4 (x1, 1, x3 + 1)
def fb_V_flaky_4 (ct : Int32) (kd : Nat → Int32) (dp : Nat → Int32) (su : Nat → Int32) (nm : Nat → Int64)  (k4 : Int32 × Int32 × Int32 → Option (Int32)) (x1 : Int32) (x2 : Int32) (x3 : Int32) : Option (Int32) :=
  Option.bind (fn_R_size ct) fun o_9 =>
  if o_9 ≤ x3 then
    some 0
  else
    Option.bind (fn_R_areAttempts ct kd dp su nm x1 x3) fun o_21 =>
    if o_21 = 0 then
      k4 (x1, x2, x3 + 1)
    else
      Option.bind (fn_R_kindOf ct kd x3) fun o_32 =>
      if x2 = 0 then
        fb_V_flaky_48 ct kd dp su nm k4 x1 x2 x3 o_32
      else
        if o_32 = 0 then
          some 1
        else
          fb_V_flaky_48 ct kd dp su nm k4 x1 x2 x3 o_32
def fl_V_flaky_4 (ct : Int32) (kd : Nat → Int32) (dp : Nat → Int32) (su : Nat → Int32) (nm : Nat → Int64)  : Nat → Int32 × Int32 × Int32 → Option (Int32) := jv_lp (fun k z => fb_V_flaky_4 ct kd dp su nm  k z.1 z.2.1 z.2.2)
def fn_V_flaky (ct : Int32) (kd : Nat → Int32) (dp : Nat → Int32) (su : Nat → Int32) (nm : Nat → Int64)  (x1 : Int32) : Option (Int32) :=
  fl_V_flaky_4 ct kd dp su nm 4000 (x1, 0, 0)
def fn_V_addWithBegunName  (bn : Int64) (ct : Int32) (lo : Int32) (oc : Int32) (kd : Nat → Int32) (dp : Nat → Int32) (su : Nat → Int32) (nm : Nat → Int64) (x1 : Int32) : Option (Int32 × Int64 × Int32 × Int32 × Int32 × (Nat → Int32) × (Nat → Int32) × (Nat → Int32) × (Nat → Int64)) :=
  Option.bind (fn_R_addNode ct lo oc kd dp su nm x1 bn) fun o_9 =>
  if o_9.1 < 0 then
    some (o_9.1, bn, o_9.2.1, o_9.2.2.1, o_9.2.2.2.1, o_9.2.2.2.2.1, o_9.2.2.2.2.2.1, o_9.2.2.2.2.2.2.1, o_9.2.2.2.2.2.2.2)
  else
    some (o_9.1, 0, o_9.2.1, o_9.2.2.1, o_9.2.2.2.1, o_9.2.2.2.2.1, o_9.2.2.2.2.2.1, o_9.2.2.2.2.2.2.1, o_9.2.2.2.2.2.2.2)
def fn_V_isPlain   (x0 : Int32) : Option (Int32) :=
  if x0 < 32 then
    some 0
  else
    if 126 < x0 then
      some 0
    else
      some 1
def fn_V_isOfPages   (x0 : Int32) : Option (Int32) :=
  if x0 = 10 then
    some 1
  else
    Option.bind (fn_V_isPlain x0) fun o_7 =>
    if o_7 = 0 then
      some 0
    else
      some 1
def fn_M_init    : Option (Int32 × Int32 × Int32 × Int32 × Int32 × Int32 × Int32 × Int32 × (Nat → Int32) × (Nat → Int32) × (Nat → Int32) × (Nat → Int32) × (Nat → Int32) × (Nat → Int32) × (Nat → Int32) × (Nat → Int32) × (Nat → Int32)) :=
  some (0, 0, 0, 0, 0, 0, 0, 0, fun _ => 0, fun _ => 0, fun _ => 0, fun _ => 0, fun _ => 0, fun _ => 0, fun _ => 0, fun _ => 0, fun _ => 0)
def fn_M_part   (x0 : Int32) (x1 : Int32) : Option (Int64) :=
  if x0 = 0 then
    if x1 = 0 then
      some 8318823019729404244
    else
      some 57385602150249
  else
  if x0 = 1 then
    if x1 = 0 then
      some 2124655
    else
      some 0
  else
  if x0 = 2 then
    if x1 = 0 then
      some 9125324284784494
    else
      some 0
  else
  if x0 = 3 then
    if x1 = 0 then
      some 2108704
    else
      some 0
  else
  if x0 = 4 then
    if x1 = 0 then
      some 22598586002842400
    else
      some 0
  else
  if x0 = 5 then
    if x1 = 0 then
      some 22311630664639264
    else
      some 0
  else
  if x0 = 6 then
    if x1 = 0 then
      some 8315180253233487907
    else
      some 2112116
  else
  if x0 = 7 then
    if x1 = 0 then
      some 3026481
    else
      some 0
  else
  if x0 = 8 then
    if x1 = 0 then
      some 8391735665723269442
    else
      some 33
  else
    some 0
def fn_M_letterOf   (x0 : Int32) (x1 : Int32) : Option (Int32) :=
  Option.bind (fn_M_part x0 (x1 / 8)) fun o_5 =>
  if x1 ≤ 15 then
    some (((((o_5 >>> ((8 * (x1 - x1 / 8 * 8)).toInt64 &&& 63)) &&& 255).toInt32).toUInt32 % 65536).toInt32)
  else
    some 0
def fn_M_letter  (bg : Int32) (na : Nat → Int32) (x1 : Int32) : Option (Int32 × Int32 × (Nat → Int32)) :=
  if x1 < 32 then
    some (0, bg, na)
  else
    if 126 < x1 then
      some (0, bg, na)
    else
      if bg = 6 then
        some (0, bg, na)
      else
        jv_gd (jv_ig bg 6) <|
        some (1, bg + 1, upd na bg.toNatClampNeg (vp_nar .char x1))
def fb_M_innermost_4 (cu : Nat → Int32) (re : Nat → Int32) (cl : Nat → Int32)  (k4 : Int32 × Int32 × Int32 → Option (Int32)) (x1 : Int32) (x2 : Int32) (x3 : Int32) : Option (Int32) :=
  jv_gd (jv_ig x1 2) <|
  if (cu x1.toNatClampNeg) ≤ x3 then
    some x2
  else
    jv_gd (jv_ig ((24 * x1) + x3) 48) <|
    if (re ((24 * x1) + x3).toNatClampNeg) = 4 then
      jv_gd (jv_ig ((24 * x1) + x3) 48) <|
      if (cl ((24 * x1) + x3).toNatClampNeg) = 0 then
        k4 (x1, x3, x3 + 1)
      else
        k4 (x1, x2, x3 + 1)
    else
      k4 (x1, x2, x3 + 1)
def fl_M_innermost_4 (cu : Nat → Int32) (re : Nat → Int32) (cl : Nat → Int32)  : Nat → Int32 × Int32 × Int32 → Option (Int32) := jv_lp (fun k z => fb_M_innermost_4 cu re cl  k z.1 z.2.1 z.2.2)
def fn_M_innermost (cu : Nat → Int32) (re : Nat → Int32) (cl : Nat → Int32)  (x1 : Int32) : Option (Int32) :=
  fl_M_innermost_4 cu re cl 4000 (x1, (-1), 0)
def fb_M_depthOf_15 (pa : Nat → Int32)  (k15 : Int32 × Int32 × Int32 → Option (Int32)) (x1 : Int32) (x3 : Int32) (x4 : Int32) : Option (Int32) :=
  if x4 < 0 then
    some x3
  else
    jv_gd (jv_ig ((24 * x1) + x4) 48) <|
    k15 (x1, x3 + 1, pa ((24 * x1) + x4).toNatClampNeg)
def fl_M_depthOf_15 (pa : Nat → Int32)  : Nat → Int32 × Int32 × Int32 → Option (Int32) := jv_lp (fun k z => fb_M_depthOf_15 pa  k z.1 z.2.1 z.2.2)
def fn_M_depthOf (pa : Nat → Int32)  (x1 : Int32) (x2 : Int32) : Option (Int32) :=
  jv_gd (jv_ig ((24 * x1) + x2) 48) <|
  fl_M_depthOf_15 pa 4000 (x1, 0, pa ((24 * x1) + x2).toNatClampNeg)
def fn_M_grow  (cu : Nat → Int32) (pa : Nat → Int32) (re : Nat → Int32) (cl : Nat → Int32) (si : Nat → Int32) (x1 : Int32) (x2 : Int32) : Option (Int32 × (Nat → Int32) × (Nat → Int32) × (Nat → Int32) × (Nat → Int32) × (Nat → Int32)) :=
  jv_gd (jv_ig x1 2) <|
  Option.bind (fn_M_innermost cu re cl x1) fun o_9 =>
  jv_gd (jv_ig ((24 * x1) + (cu x1.toNatClampNeg)) 48) <|
  jv_gd (jv_ig ((24 * x1) + (cu x1.toNatClampNeg)) 48) <|
  jv_gd (jv_ig ((24 * x1) + (cu x1.toNatClampNeg)) 48) <|
  jv_gd (jv_ig ((24 * x1) + (cu x1.toNatClampNeg)) 48) <|
  jv_gd (jv_ig x1 2) <|
  jv_gd (jv_ig x1 2) <|
  some (cu x1.toNatClampNeg, upd cu x1.toNatClampNeg ((cu x1.toNatClampNeg) + 1), upd pa ((24 * x1) + (cu x1.toNatClampNeg)).toNatClampNeg o_9, upd re ((24 * x1) + (cu x1.toNatClampNeg)).toNatClampNeg x2, upd cl ((24 * x1) + (cu x1.toNatClampNeg)).toNatClampNeg (vp_nar .boolean 0), upd si ((24 * x1) + (cu x1.toNatClampNeg)).toNatClampNeg 0)
def fb_M_addNamed_9 (na : Nat → Int32)  (k9 : Int32 × (Nat → Int32) × (Nat → Int32) × (Nat → Int32) × (Nat → Int32) × (Nat → Int32) × (Nat → Int32) × Int32 × Int32 → Option (Int32 × Int32 × (Nat → Int32) × (Nat → Int32) × (Nat → Int32) × (Nat → Int32) × (Nat → Int32) × (Nat → Int32))) (bg : Int32) (cu : Nat → Int32) (pa : Nat → Int32) (re : Nat → Int32) (cl : Nat → Int32) (si : Nat → Int32) (lt : Nat → Int32) (x2 : Int32) (x3 : Int32) : Option (Int32 × Int32 × (Nat → Int32) × (Nat → Int32) × (Nat → Int32) × (Nat → Int32) × (Nat → Int32) × (Nat → Int32)) :=
  if bg ≤ x3 then
    jv_gd (jv_ig x2 48) <|
    some (x2, 0, cu, pa, re, cl, upd si x2.toNatClampNeg bg, lt)
  else
    jv_gd (jv_ig x3 6) <|
    jv_gd (jv_ig ((6 * x2) + x3) 288) <|
    k9 (bg, cu, pa, re, cl, si, upd lt ((6 * x2) + x3).toNatClampNeg (vp_nar .char (na x3.toNatClampNeg)), x2, x3 + 1)
def fl_M_addNamed_9 (na : Nat → Int32)  : Nat → Int32 × (Nat → Int32) × (Nat → Int32) × (Nat → Int32) × (Nat → Int32) × (Nat → Int32) × (Nat → Int32) × Int32 × Int32 → Option (Int32 × Int32 × (Nat → Int32) × (Nat → Int32) × (Nat → Int32) × (Nat → Int32) × (Nat → Int32) × (Nat → Int32)) := jv_lp (fun k z => fb_M_addNamed_9 na  k z.1 z.2.1 z.2.2.1 z.2.2.2.1 z.2.2.2.2.1 z.2.2.2.2.2.1 z.2.2.2.2.2.2.1 z.2.2.2.2.2.2.2.1 z.2.2.2.2.2.2.2.2)
def fn_M_addNamed (na : Nat → Int32) (bg : Int32) (cu : Nat → Int32) (pa : Nat → Int32) (re : Nat → Int32) (cl : Nat → Int32) (si : Nat → Int32) (lt : Nat → Int32) (x1 : Int32) : Option (Int32 × Int32 × (Nat → Int32) × (Nat → Int32) × (Nat → Int32) × (Nat → Int32) × (Nat → Int32) × (Nat → Int32)) :=
  Option.bind (fn_M_grow cu pa re cl si 0 x1) fun o_3 =>
  fl_M_addNamed_9 na 4000 (bg, o_3.2.1, o_3.2.2.1, o_3.2.2.2.1, o_3.2.2.2.2.1, o_3.2.2.2.2.2, lt, o_3.1, 0)
def fn_M_open (na : Nat → Int32) (bg : Int32) (cu : Nat → Int32) (pa : Nat → Int32) (re : Nat → Int32) (cl : Nat → Int32) (si : Nat → Int32) (lt : Nat → Int32)  : Option (Int32 × Int32 × (Nat → Int32) × (Nat → Int32) × (Nat → Int32) × (Nat → Int32) × (Nat → Int32) × (Nat → Int32)) :=
  Option.bind (fn_M_innermost cu re cl 0) fun o_2 =>
  jv_gd (jv_ig 0 2) <|
  if (cu (0 : Int32).toNatClampNeg) = 24 then
    some ((-2), bg, cu, pa, re, cl, si, lt)
  else
    if o_2 < 0 then
      Option.bind (fn_M_addNamed na bg cu pa re cl si lt 4) fun o_36 =>
      some (o_36.1, o_36.2.1, o_36.2.2.1, o_36.2.2.2.1, o_36.2.2.2.2.1, o_36.2.2.2.2.2.1, o_36.2.2.2.2.2.2.1, o_36.2.2.2.2.2.2.2)
    else
      Option.bind (fn_M_depthOf pa 0 o_2) fun o_24 =>
      if o_24 = 2 then
        some ((-2), bg, cu, pa, re, cl, si, lt)
      else
        Option.bind (fn_M_addNamed na bg cu pa re cl si lt 4) fun o_36 =>
        some (o_36.1, o_36.2.1, o_36.2.2.1, o_36.2.2.2.1, o_36.2.2.2.2.1, o_36.2.2.2.2.2.1, o_36.2.2.2.2.2.2.1, o_36.2.2.2.2.2.2.2)
def fn_M_close (cu : Nat → Int32) (re : Nat → Int32) (cl : Nat → Int32)  : Option (Int32 × (Nat → Int32)) :=
  Option.bind (fn_M_innermost cu re cl 0) fun o_2 =>
  if 0 ≤ o_2 then
    jv_gd (jv_ig o_2 48) <|
    some (1, upd cl o_2.toNatClampNeg (vp_nar .boolean 1))
  else
    some (0, cl)
def fn_M_test (na : Nat → Int32) (bg : Int32) (cu : Nat → Int32) (pa : Nat → Int32) (re : Nat → Int32) (cl : Nat → Int32) (si : Nat → Int32) (lt : Nat → Int32) (x1 : Int32) : Option (Int32 × Int32 × (Nat → Int32) × (Nat → Int32) × (Nat → Int32) × (Nat → Int32) × (Nat → Int32) × (Nat → Int32)) :=
  if x1 < 0 then
    some ((-1), bg, cu, pa, re, cl, si, lt)
  else
    if x1 ≤ 3 then
      jv_gd (jv_ig 0 2) <|
      if (cu (0 : Int32).toNatClampNeg) = 24 then
        some ((-2), bg, cu, pa, re, cl, si, lt)
      else
        Option.bind (fn_M_addNamed na bg cu pa re cl si lt x1) fun o_29 =>
        some (o_29.1, o_29.2.1, o_29.2.2.1, o_29.2.2.2.1, o_29.2.2.2.2.1, o_29.2.2.2.2.2.1, o_29.2.2.2.2.2.2.1, o_29.2.2.2.2.2.2.2)
    else
      some ((-1), bg, cu, pa, re, cl, si, lt)
def fn_M_reset  (cu : Nat → Int32)  : Option ((Nat → Int32)) :=
  jv_gd (jv_ig 0 2) <|
  some (upd cu (0 : Int32).toNatClampNeg 0)
def fn_M_nodes (cu : Nat → Int32)   : Option (Int32) :=
  jv_gd (jv_ig 0 2) <|
  some (cu (0 : Int32).toNatClampNeg)
def fn_M_node (cu : Nat → Int32)  (x1 : Int32) : Option (Int32) :=
  if x1 < 0 then
    some 0
  else
    jv_gd (jv_ig 0 2) <|
    if (cu (0 : Int32).toNatClampNeg) ≤ x1 then
      some 0
    else
      some 1
def fb_M_good_56 (cu : Nat → Int32) (pa : Nat → Int32) (re : Nat → Int32) (k7 : Int32 × Int32 × Int32 × Int32 → Option (Int32)) (k35 : Int32 × Int32 × Int32 × Int32 × Int32 × Int32 → Option (Int32)) (x1 : Int32) (x2 : Int32) (x3 : Int32) (x4 : Int32) (x6 : Int32) (y0 : Int32) : Option (Int32) :=
  jv_gd (jv_ig ((24 * x1) + x6) 48) <|
  k35 (x1, x2, x3, x4, y0, pa ((24 * x1) + x6).toNatClampNeg)
def fb_M_good_35 (cu : Nat → Int32) (pa : Nat → Int32) (re : Nat → Int32) (k7 : Int32 × Int32 × Int32 × Int32 → Option (Int32)) (k35 : Int32 × Int32 × Int32 × Int32 × Int32 × Int32 → Option (Int32)) (x1 : Int32) (x2 : Int32) (x3 : Int32) (x4 : Int32) (x5 : Int32) (x6 : Int32) : Option (Int32) :=
  if x6 < 0 then
    if x3 = 0 then
      k7 (x1, x2, 0, x4 + 1)
    else
      if x5 = 0 then
        k7 (x1, x2, 1, x4 + 1)
      else
        jv_gd (jv_ig ((24 * x1) + x4) 48) <|
        if (re ((24 * x1) + x4).toNatClampNeg) = 1 then
          k7 (x1, x2, 0, x4 + 1)
        else
          k7 (x1, x2, 1, x4 + 1)
  else
    if x5 = 0 then
      if x6 = x2 then
        fb_M_good_56 cu pa re k7 k35 x1 x2 x3 x4 x6 1
      else
        fb_M_good_56 cu pa re k7 k35 x1 x2 x3 x4 x6 0
    else
      fb_M_good_56 cu pa re k7 k35 x1 x2 x3 x4 x6 1
def fl_M_good_35 (cu : Nat → Int32) (pa : Nat → Int32) (re : Nat → Int32) (k7 : Int32 × Int32 × Int32 × Int32 → Option (Int32)) : Nat → Int32 × Int32 × Int32 × Int32 × Int32 × Int32 → Option (Int32) := jv_lp (fun k z => fb_M_good_35 cu pa re k7 k z.1 z.2.1 z.2.2.1 z.2.2.2.1 z.2.2.2.2.1 z.2.2.2.2.2)
def fb_M_good_7 (cu : Nat → Int32) (pa : Nat → Int32) (re : Nat → Int32)  (k7 : Int32 × Int32 × Int32 × Int32 → Option (Int32)) (x1 : Int32) (x2 : Int32) (x3 : Int32) (x4 : Int32) : Option (Int32) :=
  jv_gd (jv_ig x1 2) <|
  if (cu x1.toNatClampNeg) ≤ x4 then
    jv_gd (jv_zb x3) <|
    some x3
  else
    jv_gd (jv_ig ((24 * x1) + x4) 48) <|
    fl_M_good_35 cu pa re k7 4000 (x1, x2, x3, x4, 0, pa ((24 * x1) + x4).toNatClampNeg)
def fl_M_good_7 (cu : Nat → Int32) (pa : Nat → Int32) (re : Nat → Int32)  : Nat → Int32 × Int32 × Int32 × Int32 → Option (Int32) := jv_lp (fun k z => fb_M_good_7 cu pa re  k z.1 z.2.1 z.2.2.1 z.2.2.2)
def fn_M_good (cu : Nat → Int32) (pa : Nat → Int32) (re : Nat → Int32)  (x1 : Int32) (x2 : Int32) : Option (Int32) :=
  fl_M_good_7 cu pa re 4000 (x1, x2, 1, x2 + 1)
def fn_M_kind (cu : Nat → Int32) (pa : Nat → Int32) (re : Nat → Int32) (cl : Nat → Int32)  (x1 : Int32) : Option (Int32) :=
  Option.bind (fn_M_node cu x1) fun o_2 =>
  if o_2 = 0 then
    some (-1)
  else
    jv_gd (jv_ig x1 48) <|
    if 4 ≤ (re x1.toNatClampNeg) then
      jv_gd (jv_ig x1 48) <|
      if (cl x1.toNatClampNeg) = 0 then
        some 6
      else
        Option.bind (fn_M_good cu pa re 0 x1) fun o_46 =>
        if o_46 = 0 then
          some 5
        else
          some 4
    else
      jv_gd (jv_ig x1 48) <|
      some (re x1.toNatClampNeg)
def fn_M_depth (cu : Nat → Int32) (pa : Nat → Int32)  (x1 : Int32) : Option (Int32) :=
  Option.bind (fn_M_node cu x1) fun o_2 =>
  if o_2 = 0 then
    some (-1)
  else
    Option.bind (fn_M_depthOf pa 0 x1) fun o_11 =>
    some o_11
def fn_M_name (cu : Nat → Int32) (si : Nat → Int32) (lt : Nat → Int32)  (x1 : Int32) (x2 : Int32) : Option (Int32) :=
  Option.bind (fn_M_node cu x1) fun o_2 =>
  if o_2 = 0 then
    some (-1)
  else
    if x2 < 0 then
      some (-1)
    else
      jv_gd (jv_ig x1 48) <|
      if (si x1.toNatClampNeg) ≤ x2 then
        some (-1)
      else
        jv_gd (jv_ig ((6 * x1) + x2) 288) <|
        some (lt ((6 * x1) + x2).toNatClampNeg)
def fb_M_placeOf_5 (pa : Nat → Int32)  (k5 : Int32 × Int32 × Int32 × Int32 → Option (Int32)) (x1 : Int32) (x2 : Int32) (x3 : Int32) (x4 : Int32) : Option (Int32) :=
  if x2 < x4 then
    some x3
  else
    jv_gd (jv_ig ((24 * x1) + x4) 48) <|
    jv_gd (jv_ig ((24 * x1) + x2) 48) <|
    if (pa ((24 * x1) + x4).toNatClampNeg) = (pa ((24 * x1) + x2).toNatClampNeg) then
      k5 (x1, x2, x3 + 1, x4 + 1)
    else
      k5 (x1, x2, x3 + 0, x4 + 1)
def fl_M_placeOf_5 (pa : Nat → Int32)  : Nat → Int32 × Int32 × Int32 × Int32 → Option (Int32) := jv_lp (fun k z => fb_M_placeOf_5 pa  k z.1 z.2.1 z.2.2.1 z.2.2.2)
def fn_M_placeOf (pa : Nat → Int32)  (x1 : Int32) (x2 : Int32) : Option (Int32) :=
  fl_M_placeOf_5 pa 4000 (x1, x2, 0, 0)
def fb_M_rowSize_5 (cu : Nat → Int32) (pa : Nat → Int32)  (k5 : Int32 × Int32 × Int32 × Int32 → Option (Int32)) (x1 : Int32) (x2 : Int32) (x3 : Int32) (x4 : Int32) : Option (Int32) :=
  jv_gd (jv_ig x1 2) <|
  if (cu x1.toNatClampNeg) ≤ x4 then
    some x3
  else
    jv_gd (jv_ig ((24 * x1) + x4) 48) <|
    if (pa ((24 * x1) + x4).toNatClampNeg) = x2 then
      k5 (x1, x2, x3 + 1, x4 + 1)
    else
      k5 (x1, x2, x3 + 0, x4 + 1)
def fl_M_rowSize_5 (cu : Nat → Int32) (pa : Nat → Int32)  : Nat → Int32 × Int32 × Int32 × Int32 → Option (Int32) := jv_lp (fun k z => fb_M_rowSize_5 cu pa  k z.1 z.2.1 z.2.2.1 z.2.2.2)
def fn_M_rowSize (cu : Nat → Int32) (pa : Nat → Int32)  (x1 : Int32) (x2 : Int32) : Option (Int32) :=
  fl_M_rowSize_5 cu pa 4000 (x1, x2, 0, 0)
def fn_M_add  (ln : Int32) (pg : Nat → Int32) (x1 : Int32) : Option (Int32 × (Nat → Int32)) :=
  jv_gd (jv_ig ln 3000) <|
  some (ln + 1, upd pg ln.toNatClampNeg (vp_nar .char x1))
def fb_M_addText_2   (k2 : Int32 × (Nat → Int32) × Int32 × Int32 → Option (Int32 × (Nat → Int32))) (ln : Int32) (pg : Nat → Int32) (x1 : Int32) (x2 : Int32) : Option (Int32 × (Nat → Int32)) :=
  Option.bind (fn_M_letterOf x1 x2) fun o_4 =>
  if o_4 = 0 then
    some (ln, pg)
  else
    Option.bind (fn_M_letterOf x1 x2) fun o_13 =>
    Option.bind (fn_M_add ln pg o_13) fun o_16 =>
    k2 (o_16.1, o_16.2, x1, x2 + 1)
def fl_M_addText_2   : Nat → Int32 × (Nat → Int32) × Int32 × Int32 → Option (Int32 × (Nat → Int32)) := jv_lp (fun k z => fb_M_addText_2   k z.1 z.2.1 z.2.2.1 z.2.2.2)
def fn_M_addText  (ln : Int32) (pg : Nat → Int32) (x1 : Int32) : Option (Int32 × (Nat → Int32)) :=
  fl_M_addText_2 4000 (ln, pg, x1, 0)
def fb_M_addSpaces_2   (k2 : Int32 × (Nat → Int32) × Int32 × Int32 → Option (Int32 × (Nat → Int32))) (ln : Int32) (pg : Nat → Int32) (x1 : Int32) (x2 : Int32) : Option (Int32 × (Nat → Int32)) :=
  if (4 * x1) ≤ x2 then
    some (ln, pg)
  else
    Option.bind (fn_M_add ln pg 32) fun o_12 =>
    k2 (o_12.1, o_12.2, x1, x2 + 1)
def fl_M_addSpaces_2   : Nat → Int32 × (Nat → Int32) × Int32 × Int32 → Option (Int32 × (Nat → Int32)) := jv_lp (fun k z => fb_M_addSpaces_2   k z.1 z.2.1 z.2.2.1 z.2.2.2)
def fn_M_addSpaces  (ln : Int32) (pg : Nat → Int32) (x1 : Int32) : Option (Int32 × (Nat → Int32)) :=
  fl_M_addSpaces_2 4000 (ln, pg, x1, 0)
def fb_M_addNumber_18   (ln : Int32) (pg : Nat → Int32) (x1 : Int32) : Option (Int32 × (Nat → Int32)) :=
  Option.bind (fn_M_add ln pg (((48 + (x1 - x1 / 10 * 10)).toUInt32 % 65536).toInt32)) fun o_27 =>
  some (o_27.1, o_27.2)
def fn_M_addNumber  (ln : Int32) (pg : Nat → Int32) (x1 : Int32) : Option (Int32 × (Nat → Int32)) :=
  if x1 ≤ 9 then
    fb_M_addNumber_18 ln pg x1
  else
    Option.bind (fn_M_add ln pg (((48 + (x1 / 10)).toUInt32 % 65536).toInt32)) fun o_15 =>
    fb_M_addNumber_18 o_15.1 o_15.2 x1
def fb_M_addName_36 (si : Nat → Int32) (lt : Nat → Int32) (k2 : Int32 × (Nat → Int32) × Int32 × Int32 → Option (Int32 × (Nat → Int32))) (ln : Int32) (pg : Nat → Int32) (x1 : Int32) (x2 : Int32) (x3 : Int32) : Option (Int32 × (Nat → Int32)) :=
  Option.bind (fn_M_add ln pg 92) fun o_39 =>
  Option.bind (fn_M_add o_39.1 o_39.2 x3) fun o_44 =>
  k2 (o_44.1, o_44.2, x1, x2 + 1)
def fb_M_addName_2 (si : Nat → Int32) (lt : Nat → Int32)  (k2 : Int32 × (Nat → Int32) × Int32 × Int32 → Option (Int32 × (Nat → Int32))) (ln : Int32) (pg : Nat → Int32) (x1 : Int32) (x2 : Int32) : Option (Int32 × (Nat → Int32)) :=
  jv_gd (jv_ig x1 48) <|
  if (si x1.toNatClampNeg) ≤ x2 then
    some (ln, pg)
  else
    jv_gd (jv_ig ((6 * x1) + x2) 288) <|
    if (lt ((6 * x1) + x2).toNatClampNeg) = 92 then
      fb_M_addName_36 si lt k2 ln pg x1 x2 (lt ((6 * x1) + x2).toNatClampNeg)
    else
      if (lt ((6 * x1) + x2).toNatClampNeg) = 35 then
        fb_M_addName_36 si lt k2 ln pg x1 x2 (lt ((6 * x1) + x2).toNatClampNeg)
      else
        Option.bind (fn_M_add ln pg (lt ((6 * x1) + x2).toNatClampNeg)) fun o_44 =>
        k2 (o_44.1, o_44.2, x1, x2 + 1)
def fl_M_addName_2 (si : Nat → Int32) (lt : Nat → Int32)  : Nat → Int32 × (Nat → Int32) × Int32 × Int32 → Option (Int32 × (Nat → Int32)) := jv_lp (fun k z => fb_M_addName_2 si lt  k z.1 z.2.1 z.2.2.1 z.2.2.2)
def fn_M_addName (si : Nat → Int32) (lt : Nat → Int32) (ln : Int32) (pg : Nat → Int32) (x1 : Int32) : Option (Int32 × (Nat → Int32)) :=
  fl_M_addName_2 si lt 4000 (ln, pg, x1, 0)
def fb_M_addVerdict_20 (pa : Nat → Int32) (si : Nat → Int32) (lt : Nat → Int32)  (ln : Int32) (pg : Nat → Int32) (x1 : Int32) (y1 : Int32) : Option (Int32 × (Nat → Int32)) :=
  Option.bind (fn_M_addText ln pg y1) fun o_20 =>
  Option.bind (fn_M_placeOf pa 0 x1) fun o_27 =>
  Option.bind (fn_M_addNumber o_20.1 o_20.2 o_27) fun o_30 =>
  Option.bind (fn_M_addText o_30.1 o_30.2 3) fun o_35 =>
  Option.bind (fn_M_addName si lt o_35.1 o_35.2 x1) fun o_40 =>
  some (o_40.1, o_40.2)
def fn_M_addVerdict (pa : Nat → Int32) (si : Nat → Int32) (lt : Nat → Int32) (ln : Int32) (pg : Nat → Int32) (x1 : Int32) (x2 : Int32) : Option (Int32 × (Nat → Int32)) :=
  Option.bind (fn_M_depthOf pa 0 x1) fun o_4 =>
  Option.bind (fn_M_addSpaces ln pg o_4) fun o_7 =>
  if x2 = 0 then
    fb_M_addVerdict_20 pa si lt o_7.1 o_7.2 x1 2
  else
    fb_M_addVerdict_20 pa si lt o_7.1 o_7.2 x1 1
def fn_M_finish (cu : Nat → Int32) (pa : Nat → Int32) (re : Nat → Int32) (si : Nat → Int32) (lt : Nat → Int32) (ln : Int32) (pg : Nat → Int32) (x1 : Int32) : Option (Int32 × (Nat → Int32)) :=
  Option.bind (fn_M_depthOf pa 0 x1) fun o_4 =>
  Option.bind (fn_M_addSpaces ln pg (o_4 + 1)) fun o_9 =>
  Option.bind (fn_M_addText o_9.1 o_9.2 7) fun o_15 =>
  Option.bind (fn_M_rowSize cu pa 0 x1) fun o_22 =>
  Option.bind (fn_M_addNumber o_15.1 o_15.2 o_22) fun o_25 =>
  Option.bind (fn_M_add o_25.1 o_25.2 10) fun o_31 =>
  Option.bind (fn_M_good cu pa re 0 x1) fun o_39 =>
  Option.bind (fn_M_addVerdict pa si lt o_31.1 o_31.2 x1 o_39) fun o_42 =>
  Option.bind (fn_M_add o_42.1 o_42.2 10) fun o_48 =>
  some (o_48.1, o_48.2)
def fb_M_write_203 (cu : Nat → Int32) (pa : Nat → Int32) (re : Nat → Int32) (cl : Nat → Int32) (si : Nat → Int32) (lt : Nat → Int32)  (ln : Int32) (pg : Nat → Int32) : Option (Int32 × Int32 × (Nat → Int32)) :=
  Option.bind (fn_M_add ln pg 10) fun o_206 =>
  some (o_206.1, o_206.1, o_206.2)
def fb_M_write_174 (cu : Nat → Int32) (pa : Nat → Int32) (re : Nat → Int32) (cl : Nat → Int32) (si : Nat → Int32) (lt : Nat → Int32)  (ln : Int32) (pg : Nat → Int32) (x1 : Int32) : Option (Int32 × Int32 × (Nat → Int32)) :=
  if 0 ≤ x1 then
    Option.bind (fn_M_addText ln pg 8) fun o_200 =>
    fb_M_write_203 cu pa re cl si lt o_200.1 o_200.2
  else
    Option.bind (fn_M_addText ln pg 7) fun o_181 =>
    Option.bind (fn_M_rowSize cu pa 0 (-1)) fun o_188 =>
    Option.bind (fn_M_addNumber o_181.1 o_181.2 o_188) fun o_191 =>
    fb_M_write_203 cu pa re cl si lt o_191.1 o_191.2
def fb_M_write_146 (cu : Nat → Int32) (pa : Nat → Int32) (re : Nat → Int32) (cl : Nat → Int32) (si : Nat → Int32) (lt : Nat → Int32)  (k146 : Int32 × (Nat → Int32) × Int32 → Option (Int32 × Int32 × (Nat → Int32))) (ln : Int32) (pg : Nat → Int32) (x1 : Int32) : Option (Int32 × Int32 × (Nat → Int32)) :=
  if x1 < 0 then
    fb_M_write_174 cu pa re cl si lt ln pg x1
  else
    jv_gd (jv_ig x1 48) <|
    if (cl x1.toNatClampNeg) = 0 then
      fb_M_write_174 cu pa re cl si lt ln pg x1
    else
      Option.bind (fn_M_finish cu pa re si lt ln pg x1) fun o_161 =>
      jv_gd (jv_ig x1 48) <|
      k146 (o_161.1, o_161.2, pa x1.toNatClampNeg)
def fl_M_write_146 (cu : Nat → Int32) (pa : Nat → Int32) (re : Nat → Int32) (cl : Nat → Int32) (si : Nat → Int32) (lt : Nat → Int32)  : Nat → Int32 × (Nat → Int32) × Int32 → Option (Int32 × Int32 × (Nat → Int32)) := jv_lp (fun k z => fb_M_write_146 cu pa re cl si lt  k z.1 z.2.1 z.2.2)
def fb_M_write_109 (cu : Nat → Int32) (pa : Nat → Int32) (re : Nat → Int32) (cl : Nat → Int32) (si : Nat → Int32) (lt : Nat → Int32) (k20 : Int32 × (Nat → Int32) × Int32 × Int32 → Option (Int32 × Int32 × (Nat → Int32))) (ln : Int32) (pg : Nat → Int32) (x1 : Int32) (x2 : Int32) (y1 : Int32) (y2 : Int32) : Option (Int32 × Int32 × (Nat → Int32)) :=
  Option.bind (fn_M_addVerdict pa si lt ln pg y1 y2) fun o_109 =>
  jv_gd (jv_ig x2 48) <|
  if (re x2.toNatClampNeg) ≤ 1 then
    Option.bind (fn_M_add o_109.1 o_109.2 10) fun o_137 =>
    k20 (o_137.1, o_137.2, x1, x2 + 1)
  else
    jv_gd (jv_ig x2 48) <|
    Option.bind (fn_M_addText o_109.1 o_109.2 ((re x2.toNatClampNeg) + 2)) fun o_131 =>
    Option.bind (fn_M_add o_131.1 o_131.2 10) fun o_137 =>
    k20 (o_137.1, o_137.2, x1, x2 + 1)
def fb_M_write_30 (cu : Nat → Int32) (pa : Nat → Int32) (re : Nat → Int32) (cl : Nat → Int32) (si : Nat → Int32) (lt : Nat → Int32) (k20 : Int32 × (Nat → Int32) × Int32 × Int32 → Option (Int32 × Int32 × (Nat → Int32))) (k30 : Int32 × (Nat → Int32) × Int32 × Int32 → Option (Int32 × Int32 × (Nat → Int32))) (ln : Int32) (pg : Nat → Int32) (x1 : Int32) (x2 : Int32) : Option (Int32 × Int32 × (Nat → Int32)) :=
  jv_gd (jv_ig x2 48) <|
  if x1 = (pa x2.toNatClampNeg) then
    jv_gd (jv_ig x2 48) <|
    if (re x2.toNatClampNeg) = 4 then
      Option.bind (fn_M_depthOf pa 0 x2) fun o_69 =>
      Option.bind (fn_M_addSpaces ln pg o_69) fun o_72 =>
      Option.bind (fn_M_addText o_72.1 o_72.2 6) fun o_78 =>
      Option.bind (fn_M_addName si lt o_78.1 o_78.2 x2) fun o_83 =>
      Option.bind (fn_M_add o_83.1 o_83.2 10) fun o_137 =>
      k20 (o_137.1, o_137.2, x2, x2 + 1)
    else
      jv_gd (jv_ig x2 48) <|
      if ((re x2.toNatClampNeg) - (re x2.toNatClampNeg) / 2 * 2) = 0 then
        fb_M_write_109 cu pa re cl si lt k20 ln pg x1 x2 x2 1
      else
        fb_M_write_109 cu pa re cl si lt k20 ln pg x1 x2 x2 0
  else
    Option.bind (fn_M_finish cu pa re si lt ln pg x1) fun o_42 =>
    jv_gd (jv_ig x1 48) <|
    k30 (o_42.1, o_42.2, pa x1.toNatClampNeg, x2)
def fl_M_write_30 (cu : Nat → Int32) (pa : Nat → Int32) (re : Nat → Int32) (cl : Nat → Int32) (si : Nat → Int32) (lt : Nat → Int32) (k20 : Int32 × (Nat → Int32) × Int32 × Int32 → Option (Int32 × Int32 × (Nat → Int32))) : Nat → Int32 × (Nat → Int32) × Int32 × Int32 → Option (Int32 × Int32 × (Nat → Int32)) := jv_lp (fun k z => fb_M_write_30 cu pa re cl si lt k20 k z.1 z.2.1 z.2.2.1 z.2.2.2)
def fb_M_write_20 (cu : Nat → Int32) (pa : Nat → Int32) (re : Nat → Int32) (cl : Nat → Int32) (si : Nat → Int32) (lt : Nat → Int32)  (k20 : Int32 × (Nat → Int32) × Int32 × Int32 → Option (Int32 × Int32 × (Nat → Int32))) (ln : Int32) (pg : Nat → Int32) (x1 : Int32) (x2 : Int32) : Option (Int32 × Int32 × (Nat → Int32)) :=
  jv_gd (jv_ig 0 2) <|
  if (cu (0 : Int32).toNatClampNeg) ≤ x2 then
    fl_M_write_146 cu pa re cl si lt 4000 (ln, pg, x1)
  else
    fl_M_write_30 cu pa re cl si lt k20 4000 (ln, pg, x1, x2)
def fl_M_write_20 (cu : Nat → Int32) (pa : Nat → Int32) (re : Nat → Int32) (cl : Nat → Int32) (si : Nat → Int32) (lt : Nat → Int32)  : Nat → Int32 × (Nat → Int32) × Int32 × Int32 → Option (Int32 × Int32 × (Nat → Int32)) := jv_lp (fun k z => fb_M_write_20 cu pa re cl si lt  k z.1 z.2.1 z.2.2.1 z.2.2.2)
def fn_M_write (cu : Nat → Int32) (pa : Nat → Int32) (re : Nat → Int32) (cl : Nat → Int32) (si : Nat → Int32) (lt : Nat → Int32) (ln : Int32) (pg : Nat → Int32)  : Option (Int32 × Int32 × (Nat → Int32)) :=
  Option.bind (fn_M_addText 0 pg 0) fun o_7 =>
  Option.bind (fn_M_add o_7.1 o_7.2 10) fun o_13 =>
  fl_M_write_20 cu pa re cl si lt 4000 (o_13.1, o_13.2, (-1), 0)
def fb_M_eat_7 (en : Int32) (pg : Nat → Int32)  (k7 : Int32 × Int32 × Int32 × Int32 → Option (Int32 × Int32)) (mt : Int32) (x1 : Int32) (x2 : Int32) (x3 : Int32) : Option (Int32 × Int32) :=
  Option.bind (fn_M_letterOf x1 x3) fun o_9 =>
  if o_9 = 0 then
    some (1, x2)
  else
    if en ≤ x2 then
      some (0, mt)
    else
      jv_gd (jv_ig x2 3000) <|
      Option.bind (fn_M_letterOf x1 x3) fun o_31 =>
      if (pg x2.toNatClampNeg) = o_31 then
        k7 (mt, x1, x2 + 1, x3 + 1)
      else
        some (0, mt)
def fl_M_eat_7 (en : Int32) (pg : Nat → Int32)  : Nat → Int32 × Int32 × Int32 × Int32 → Option (Int32 × Int32) := jv_lp (fun k z => fb_M_eat_7 en pg  k z.1 z.2.1 z.2.2.1 z.2.2.2)
def fn_M_eat (en : Int32) (pg : Nat → Int32) (mt : Int32) (x1 : Int32) : Option (Int32 × Int32) :=
  fl_M_eat_7 en pg 4000 (mt, x1, mt, 0)
def fb_M_eatSpaces_2 (en : Int32) (pg : Nat → Int32)  (k2 : Int32 × Int32 × Int32 → Option (Int32 × Int32)) (mt : Int32) (x1 : Int32) (x2 : Int32) : Option (Int32 × Int32) :=
  if (4 * x1) ≤ x2 then
    some (1, mt)
  else
    if en ≤ mt then
      some (0, mt)
    else
      jv_gd (jv_ig mt 3000) <|
      if (pg mt.toNatClampNeg) = 32 then
        k2 (mt + 1, x1, x2 + 1)
      else
        some (0, mt)
def fl_M_eatSpaces_2 (en : Int32) (pg : Nat → Int32)  : Nat → Int32 × Int32 × Int32 → Option (Int32 × Int32) := jv_lp (fun k z => fb_M_eatSpaces_2 en pg  k z.1 z.2.1 z.2.2)
def fn_M_eatSpaces (en : Int32) (pg : Nat → Int32) (mt : Int32) (x1 : Int32) : Option (Int32 × Int32) :=
  fl_M_eatSpaces_2 en pg 4000 (mt, x1, 0)
def fn_M_eatDigit (en : Int32) (pg : Nat → Int32) (mt : Int32) (x1 : Int32) : Option (Int32 × Int32) :=
  if en ≤ mt then
    some (0, mt)
  else
    jv_gd (jv_ig mt 3000) <|
    if (pg mt.toNatClampNeg) = (48 + x1) then
      some (1, mt + 1)
    else
      some (0, mt)
def fb_M_eatNumber_17 (en : Int32) (pg : Nat → Int32)  (mt : Int32) (x1 : Int32) : Option (Int32 × Int32) :=
  Option.bind (fn_M_eatDigit en pg mt (x1 - x1 / 10 * 10)) fun o_22 =>
  if o_22.1 = 0 then
    some (0, o_22.2)
  else
    some (1, o_22.2)
def fn_M_eatNumber (en : Int32) (pg : Nat → Int32) (mt : Int32) (x1 : Int32) : Option (Int32 × Int32) :=
  if x1 < 10 then
    fb_M_eatNumber_17 en pg mt x1
  else
    Option.bind (fn_M_eatDigit en pg mt (x1 / 10)) fun o_11 =>
    if o_11.1 = 0 then
      some (0, o_11.2)
    else
      fb_M_eatNumber_17 en pg o_11.2 x1
def fb_M_eatName_94 (pg : Nat → Int32) (k5 : Int32 × Int32 × (Nat → Int32) × Int32 → Option (Int32 × Int32 × Int32 × (Nat → Int32))) (mt : Int32) (tk : Int32) (rd : Nat → Int32) (x1 : Int32) : Option (Int32 × Int32 × Int32 × (Nat → Int32)) :=
  jv_gd (jv_ig mt 3000) <|
  jv_gd (jv_ig tk 6) <|
  k5 (mt + 1, tk + 1, upd rd tk.toNatClampNeg (vp_nar .char (pg mt.toNatClampNeg)), x1)
def fb_M_eatName_5 (pg : Nat → Int32)  (k5 : Int32 × Int32 × (Nat → Int32) × Int32 → Option (Int32 × Int32 × Int32 × (Nat → Int32))) (mt : Int32) (tk : Int32) (rd : Nat → Int32) (x1 : Int32) : Option (Int32 × Int32 × Int32 × (Nat → Int32)) :=
  if x1 ≤ mt then
    if mt = x1 then
      some (1, mt, tk, rd)
    else
      some (0, mt, tk, rd)
  else
    if 6 ≤ tk then
      if mt = x1 then
        some (1, mt, tk, rd)
      else
        some (0, mt, tk, rd)
    else
      jv_gd (jv_ig mt 3000) <|
      if (pg mt.toNatClampNeg) = 35 then
        some (0, mt, tk, rd)
      else
        if (pg mt.toNatClampNeg) = 92 then
          if x1 ≤ (mt + 1) then
            some (0, mt + 1, tk, rd)
          else
            jv_gd (jv_ig (mt + 1) 3000) <|
            if (pg (mt + 1).toNatClampNeg) = 92 then
              fb_M_eatName_94 pg k5 (mt + 1) tk rd x1
            else
              jv_gd (jv_ig (mt + 1) 3000) <|
              if (pg (mt + 1).toNatClampNeg) = 35 then
                fb_M_eatName_94 pg k5 (mt + 1) tk rd x1
              else
                some (0, mt + 1, tk, rd)
        else
          fb_M_eatName_94 pg k5 mt tk rd x1
def fl_M_eatName_5 (pg : Nat → Int32)  : Nat → Int32 × Int32 × (Nat → Int32) × Int32 → Option (Int32 × Int32 × Int32 × (Nat → Int32)) := jv_lp (fun k z => fb_M_eatName_5 pg  k z.1 z.2.1 z.2.2.1 z.2.2.2)
def fn_M_eatName (pg : Nat → Int32) (mt : Int32) (tk : Int32) (rd : Nat → Int32) (x1 : Int32) : Option (Int32 × Int32 × Int32 × (Nat → Int32)) :=
  fl_M_eatName_5 pg 4000 (mt, 0, rd, x1)
def fb_M_accept_35 (tk : Int32) (rd : Nat → Int32)  (k35 : Int32 × (Nat → Int32) × (Nat → Int32) × (Nat → Int32) × (Nat → Int32) × (Nat → Int32) × (Nat → Int32) × Int32 × Int32 × Int32 → Option (Int32 × Int32 × (Nat → Int32) × (Nat → Int32) × (Nat → Int32) × (Nat → Int32) × (Nat → Int32) × (Nat → Int32))) (sx : Int32) (cu : Nat → Int32) (pa : Nat → Int32) (re : Nat → Int32) (cl : Nat → Int32) (si : Nat → Int32) (lt : Nat → Int32) (x1 : Int32) (x2 : Int32) (x3 : Int32) : Option (Int32 × Int32 × (Nat → Int32) × (Nat → Int32) × (Nat → Int32) × (Nat → Int32) × (Nat → Int32) × (Nat → Int32)) :=
  if tk ≤ x3 then
    if x1 = 4 then
      some (1, x2, cu, pa, re, cl, si, lt)
    else
      some (1, sx, cu, pa, re, cl, si, lt)
  else
    jv_gd (jv_ig x3 6) <|
    jv_gd (jv_ig ((6 * (24 + x2)) + x3) 288) <|
    k35 (sx, cu, pa, re, cl, si, upd lt ((6 * (24 + x2)) + x3).toNatClampNeg (vp_nar .char (rd x3.toNatClampNeg)), x1, x2, x3 + 1)
def fl_M_accept_35 (tk : Int32) (rd : Nat → Int32)  : Nat → Int32 × (Nat → Int32) × (Nat → Int32) × (Nat → Int32) × (Nat → Int32) × (Nat → Int32) × (Nat → Int32) × Int32 × Int32 × Int32 → Option (Int32 × Int32 × (Nat → Int32) × (Nat → Int32) × (Nat → Int32) × (Nat → Int32) × (Nat → Int32) × (Nat → Int32)) := jv_lp (fun k z => fb_M_accept_35 tk rd  k z.1 z.2.1 z.2.2.1 z.2.2.2.1 z.2.2.2.2.1 z.2.2.2.2.2.1 z.2.2.2.2.2.2.1 z.2.2.2.2.2.2.2.1 z.2.2.2.2.2.2.2.2.1 z.2.2.2.2.2.2.2.2.2)
def fn_M_accept (tk : Int32) (rd : Nat → Int32) (sx : Int32) (cu : Nat → Int32) (pa : Nat → Int32) (re : Nat → Int32) (cl : Nat → Int32) (si : Nat → Int32) (lt : Nat → Int32) (x1 : Int32) : Option (Int32 × Int32 × (Nat → Int32) × (Nat → Int32) × (Nat → Int32) × (Nat → Int32) × (Nat → Int32) × (Nat → Int32)) :=
  jv_gd (jv_ig 1 2) <|
  if (cu (1 : Int32).toNatClampNeg) = 24 then
    some (0, sx, cu, pa, re, cl, si, lt)
  else
    Option.bind (fn_M_grow cu pa re cl si 1 x1) fun o_16 =>
    jv_gd (jv_ig (24 + o_16.1) 48) <|
    fl_M_accept_35 tk rd 4000 (sx, o_16.2.1, o_16.2.2.1, o_16.2.2.2.1, o_16.2.2.2.2.1, upd o_16.2.2.2.2.2 (24 + o_16.1).toNatClampNeg tk, lt, x1, o_16.1, 0)
def fb_M_isName_24 (tk : Int32) (si : Nat → Int32) (lt : Nat → Int32) (rd : Nat → Int32)  (k24 : Int32 × Int32 × Int32 → Option (Int32)) (x1 : Int32) (x2 : Int32) (x3 : Int32) : Option (Int32) :=
  if tk ≤ x3 then
    jv_gd (jv_zb x2) <|
    some x2
  else
    if x2 = 0 then
      jv_gd (jv_zb x2) <|
      some x2
    else
      jv_gd (jv_ig ((6 * (24 + x1)) + x3) 288) <|
      jv_gd (jv_ig x3 6) <|
      if (lt ((6 * (24 + x1)) + x3).toNatClampNeg) = (rd x3.toNatClampNeg) then
        k24 (x1, 1, x3 + 1)
      else
        k24 (x1, 0, x3 + 1)
def fl_M_isName_24 (tk : Int32) (si : Nat → Int32) (lt : Nat → Int32) (rd : Nat → Int32)  : Nat → Int32 × Int32 × Int32 → Option (Int32) := jv_lp (fun k z => fb_M_isName_24 tk si lt rd  k z.1 z.2.1 z.2.2)
def fn_M_isName (tk : Int32) (si : Nat → Int32) (lt : Nat → Int32) (rd : Nat → Int32)  (x1 : Int32) : Option (Int32) :=
  jv_gd (jv_ig (24 + x1) 48) <|
  if (si (24 + x1).toNatClampNeg) = tk then
    fl_M_isName_24 tk si lt rd 4000 (x1, 1, 0)
  else
    fl_M_isName_24 tk si lt rd 4000 (x1, 0, 0)
def fb_M_closing_93 (en : Int32) (cu : Nat → Int32) (pa : Nat → Int32) (re : Nat → Int32) (si : Nat → Int32) (lt : Nat → Int32) (pg : Nat → Int32)  (mt : Int32) (sx : Int32) (pl : Int32) (tk : Int32) (cl : Nat → Int32) (rd : Nat → Int32) (y0 : Int32) : Option (Int32 × Int32 × Int32 × Int32 × Int32 × (Nat → Int32) × (Nat → Int32)) :=
  if y0 = 0 then
    jv_gd (jv_zb y0) <|
    some (y0, mt, sx, pl, tk, cl, rd)
  else
    jv_gd (jv_ig (24 + sx) 48) <|
    jv_gd (jv_ig (24 + sx) 48) <|
    jv_gd (jv_zb y0) <|
    some (y0, mt, pa (24 + sx).toNatClampNeg, 0, tk, upd cl (24 + sx).toNatClampNeg (vp_nar .boolean 1), rd)
def fb_M_closing_36 (en : Int32) (cu : Nat → Int32) (pa : Nat → Int32) (re : Nat → Int32) (si : Nat → Int32) (lt : Nat → Int32) (pg : Nat → Int32)  (mt : Int32) (sx : Int32) (pl : Int32) (tk : Int32) (cl : Nat → Int32) (rd : Nat → Int32) (y1 : Int32) : Option (Int32 × Int32 × Int32 × Int32 × Int32 × (Nat → Int32) × (Nat → Int32)) :=
  Option.bind (fn_M_eat en pg mt y1) fun o_36 =>
  if o_36.1 = 0 then
    fb_M_closing_93 en cu pa re si lt pg o_36.2 sx pl tk cl rd 0
  else
    Option.bind (fn_M_placeOf pa 1 sx) fun o_49 =>
    Option.bind (fn_M_eatNumber en pg o_36.2 o_49) fun o_52 =>
    if o_52.1 = 0 then
      fb_M_closing_93 en cu pa re si lt pg o_52.2 sx pl tk cl rd 0
    else
      Option.bind (fn_M_eat en pg o_52.2 3) fun o_60 =>
      if o_60.1 = 0 then
        fb_M_closing_93 en cu pa re si lt pg o_60.2 sx pl tk cl rd 0
      else
        Option.bind (fn_M_eatName pg o_60.2 tk rd en) fun o_71 =>
        if o_71.1 = 0 then
          fb_M_closing_93 en cu pa re si lt pg o_71.2.1 sx pl o_71.2.2.1 cl o_71.2.2.2 0
        else
          Option.bind (fn_M_isName o_71.2.2.1 si lt o_71.2.2.2 sx) fun o_82 =>
          if o_82 = 0 then
            fb_M_closing_93 en cu pa re si lt pg o_71.2.1 sx pl o_71.2.2.1 cl o_71.2.2.2 0
          else
            fb_M_closing_93 en cu pa re si lt pg o_71.2.1 sx pl o_71.2.2.1 cl o_71.2.2.2 1
def fn_M_closing (en : Int32) (cu : Nat → Int32) (pa : Nat → Int32) (re : Nat → Int32) (si : Nat → Int32) (lt : Nat → Int32) (pg : Nat → Int32) (mt : Int32) (sx : Int32) (pl : Int32) (tk : Int32) (cl : Nat → Int32) (rd : Nat → Int32)  : Option (Int32 × Int32 × Int32 × Int32 × Int32 × (Nat → Int32) × (Nat → Int32)) :=
  Option.bind (fn_M_depthOf pa 1 sx) fun o_6 =>
  Option.bind (fn_M_eatSpaces en pg mt o_6) fun o_12 =>
  if o_12.1 = 0 then
    fb_M_closing_93 en cu pa re si lt pg o_12.2 sx pl tk cl rd 0
  else
    Option.bind (fn_M_good cu pa re 1 sx) fun o_25 =>
    if o_25 = 0 then
      fb_M_closing_36 en cu pa re si lt pg o_12.2 sx pl tk cl rd 2
    else
      fb_M_closing_36 en cu pa re si lt pg o_12.2 sx pl tk cl rd 1
def fb_M_plan_64 (en : Int32) (sx : Int32) (cu : Nat → Int32) (pa : Nat → Int32) (pg : Nat → Int32)  (mt : Int32) (pl : Int32) (ov : Int32) (y1 : Int32) : Option (Int32 × Int32 × Int32 × Int32) :=
  jv_gd (jv_zb y1) <|
  if 0 ≤ sx then
    some (1, mt, y1, 0)
  else
    some (1, mt, y1, 1)
def fn_M_plan (en : Int32) (sx : Int32) (cu : Nat → Int32) (pa : Nat → Int32) (pg : Nat → Int32) (mt : Int32) (pl : Int32) (ov : Int32) (x1 : Int32) (x2 : Int32) : Option (Int32 × Int32 × Int32 × Int32) :=
  Option.bind (fn_M_eatSpaces en pg x1 x2) fun o_7 =>
  if o_7.1 = 0 then
    some (0, o_7.2, pl, ov)
  else
    Option.bind (fn_M_eat en pg o_7.2 7) fun o_16 =>
    if o_16.1 = 0 then
      some (0, o_16.2, pl, ov)
    else
      Option.bind (fn_M_rowSize cu pa 1 sx) fun o_29 =>
      Option.bind (fn_M_eatNumber en pg o_16.2 o_29) fun o_32 =>
      if o_32.1 = 0 then
        some (0, o_32.2, pl, ov)
      else
        if o_32.2 = en then
          if sx < 0 then
            fb_M_plan_64 en sx cu pa pg o_32.2 pl ov 0
          else
            fb_M_plan_64 en sx cu pa pg o_32.2 pl ov 1
        else
          some (0, o_32.2, pl, ov)
def fn_M_bail (en : Int32) (sx : Int32) (pg : Nat → Int32) (mt : Int32) (ov : Int32) (x1 : Int32) : Option (Int32 × Int32 × Int32) :=
  if sx < 0 then
    some (0, x1, 0)
  else
    Option.bind (fn_M_eat en pg x1 8) fun o_16 =>
    if o_16.1 = 0 then
      some (0, o_16.2, 0)
    else
      if o_16.2 = en then
        some (1, o_16.2, 1)
      else
        some (0, o_16.2, 0)
def fn_M_subtest (en : Int32) (pg : Nat → Int32) (mt : Int32) (sx : Int32) (tk : Int32) (cu : Nat → Int32) (pa : Nat → Int32) (re : Nat → Int32) (cl : Nat → Int32) (si : Nat → Int32) (lt : Nat → Int32) (rd : Nat → Int32) (x1 : Int32) (x2 : Int32) : Option (Int32 × Int32 × Int32 × Int32 × (Nat → Int32) × (Nat → Int32) × (Nat → Int32) × (Nat → Int32) × (Nat → Int32) × (Nat → Int32) × (Nat → Int32)) :=
  if 3 ≤ x2 then
    some (0, x1, sx, tk, cu, pa, re, cl, si, lt, rd)
  else
    Option.bind (fn_M_eatSpaces en pg x1 x2) fun o_12 =>
    if o_12.1 = 0 then
      some (0, o_12.2, sx, tk, cu, pa, re, cl, si, lt, rd)
    else
      Option.bind (fn_M_eat en pg o_12.2 6) fun o_21 =>
      if o_21.1 = 0 then
        some (0, o_21.2, sx, tk, cu, pa, re, cl, si, lt, rd)
      else
        Option.bind (fn_M_eatName pg o_21.2 tk rd en) fun o_32 =>
        if o_32.1 = 0 then
          some (0, o_32.2.1, sx, o_32.2.2.1, cu, pa, re, cl, si, lt, o_32.2.2.2)
        else
          Option.bind (fn_M_accept o_32.2.2.1 o_32.2.2.2 sx cu pa re cl si lt 4) fun o_40 =>
          if o_40.1 = 0 then
            some (0, o_32.2.1, o_40.2.1, o_32.2.2.1, o_40.2.2.1, o_40.2.2.2.1, o_40.2.2.2.2.1, o_40.2.2.2.2.2.1, o_40.2.2.2.2.2.2.1, o_40.2.2.2.2.2.2.2, o_32.2.2.2)
          else
            some (1, o_32.2.1, o_40.2.1, o_32.2.2.1, o_40.2.2.1, o_40.2.2.2.1, o_40.2.2.2.2.1, o_40.2.2.2.2.2.1, o_40.2.2.2.2.2.2.1, o_40.2.2.2.2.2.2.2, o_32.2.2.2)
def fn_M_endsWith (en : Int32) (pg : Nat → Int32) (mt : Int32) (x1 : Int32) (x2 : Int32) (x3 : Int32) : Option (Int32 × Int32) :=
  if (en - x3) < x1 then
    some (0, mt)
  else
    Option.bind (fn_M_eat en pg (en - x3) x2) fun o_26 =>
    if o_26.1 = 0 then
      some (0, mt)
    else
      some (1, mt)
def fb_M_testLine_139 (en : Int32) (pg : Nat → Int32)  (mt : Int32) (sx : Int32) (tk : Int32) (cu : Nat → Int32) (pa : Nat → Int32) (re : Nat → Int32) (cl : Nat → Int32) (si : Nat → Int32) (lt : Nat → Int32) (rd : Nat → Int32) (y1 : Int32) : Option (Int32 × Int32 × Int32 × Int32 × (Nat → Int32) × (Nat → Int32) × (Nat → Int32) × (Nat → Int32) × (Nat → Int32) × (Nat → Int32) × (Nat → Int32)) :=
  Option.bind (fn_M_accept tk rd sx cu pa re cl si lt y1) fun o_139 =>
  if o_139.1 = 0 then
    some (0, mt, o_139.2.1, tk, o_139.2.2.1, o_139.2.2.2.1, o_139.2.2.2.2.1, o_139.2.2.2.2.2.1, o_139.2.2.2.2.2.2.1, o_139.2.2.2.2.2.2.2, rd)
  else
    some (1, mt, o_139.2.1, tk, o_139.2.2.1, o_139.2.2.2.1, o_139.2.2.2.2.1, o_139.2.2.2.2.2.1, o_139.2.2.2.2.2.2.1, o_139.2.2.2.2.2.2.2, rd)
def fb_M_testLine_106 (en : Int32) (pg : Nat → Int32)  (mt : Int32) (sx : Int32) (tk : Int32) (cu : Nat → Int32) (pa : Nat → Int32) (re : Nat → Int32) (cl : Nat → Int32) (si : Nat → Int32) (lt : Nat → Int32) (rd : Nat → Int32) (x3 : Int32) (x5 : Int32) (y1 : Int32) : Option (Int32 × Int32 × Int32 × Int32 × (Nat → Int32) × (Nat → Int32) × (Nat → Int32) × (Nat → Int32) × (Nat → Int32) × (Nat → Int32) × (Nat → Int32)) :=
  Option.bind (fn_M_eatName pg mt tk rd y1) fun o_106 =>
  if o_106.1 = 0 then
    some (0, o_106.2.1, sx, o_106.2.2.1, cu, pa, re, cl, si, lt, o_106.2.2.2)
  else
    if x5 = 0 then
      if x3 = 0 then
        fb_M_testLine_139 en pg o_106.2.1 sx o_106.2.2.1 cu pa re cl si lt o_106.2.2.2 1
      else
        fb_M_testLine_139 en pg o_106.2.1 sx o_106.2.2.1 cu pa re cl si lt o_106.2.2.2 0
    else
      if x3 = 0 then
        fb_M_testLine_139 en pg o_106.2.1 sx o_106.2.2.1 cu pa re cl si lt o_106.2.2.2 3
      else
        fb_M_testLine_139 en pg o_106.2.1 sx o_106.2.2.1 cu pa re cl si lt o_106.2.2.2 2
def fb_M_testLine_79 (en : Int32) (pg : Nat → Int32)  (mt : Int32) (sx : Int32) (tk : Int32) (cu : Nat → Int32) (pa : Nat → Int32) (re : Nat → Int32) (cl : Nat → Int32) (si : Nat → Int32) (lt : Nat → Int32) (rd : Nat → Int32) (x3 : Int32) (y1 : Int32) (y2 : Int32) : Option (Int32 × Int32 × Int32 × Int32 × (Nat → Int32) × (Nat → Int32) × (Nat → Int32) × (Nat → Int32) × (Nat → Int32) × (Nat → Int32) × (Nat → Int32)) :=
  Option.bind (fn_M_endsWith en pg mt y1 y2 7) fun o_81 =>
  if o_81.1 = 0 then
    fb_M_testLine_106 en pg o_81.2 sx tk cu pa re cl si lt rd x3 o_81.1 en
  else
    fb_M_testLine_106 en pg o_81.2 sx tk cu pa re cl si lt rd x3 o_81.1 (en - 7)
def fb_M_testLine_44 (en : Int32) (pg : Nat → Int32)  (mt : Int32) (sx : Int32) (tk : Int32) (cu : Nat → Int32) (pa : Nat → Int32) (re : Nat → Int32) (cl : Nat → Int32) (si : Nat → Int32) (lt : Nat → Int32) (rd : Nat → Int32) (x3 : Int32) (x4 : Int32) : Option (Int32 × Int32 × Int32 × Int32 × (Nat → Int32) × (Nat → Int32) × (Nat → Int32) × (Nat → Int32) × (Nat → Int32) × (Nat → Int32) × (Nat → Int32)) :=
  Option.bind (fn_M_eatNumber en pg mt (x4 + 1)) fun o_49 =>
  if o_49.1 = 0 then
    some (0, o_49.2, sx, tk, cu, pa, re, cl, si, lt, rd)
  else
    Option.bind (fn_M_eat en pg o_49.2 3) fun o_57 =>
    if o_57.1 = 0 then
      some (0, o_57.2, sx, tk, cu, pa, re, cl, si, lt, rd)
    else
      if x3 = 0 then
        fb_M_testLine_79 en pg o_57.2 sx tk cu pa re cl si lt rd x3 o_57.2 5
      else
        fb_M_testLine_79 en pg o_57.2 sx tk cu pa re cl si lt rd x3 o_57.2 4
def fn_M_testLine (en : Int32) (pg : Nat → Int32) (mt : Int32) (sx : Int32) (tk : Int32) (cu : Nat → Int32) (pa : Nat → Int32) (re : Nat → Int32) (cl : Nat → Int32) (si : Nat → Int32) (lt : Nat → Int32) (rd : Nat → Int32) (x1 : Int32) (x2 : Int32) : Option (Int32 × Int32 × Int32 × Int32 × (Nat → Int32) × (Nat → Int32) × (Nat → Int32) × (Nat → Int32) × (Nat → Int32) × (Nat → Int32) × (Nat → Int32)) :=
  Option.bind (fn_M_eatSpaces en pg x1 x2) fun o_7 =>
  if o_7.1 = 0 then
    some (0, o_7.2, sx, tk, cu, pa, re, cl, si, lt, rd)
  else
    Option.bind (fn_M_eat en pg o_7.2 1) fun o_17 =>
    Option.bind (fn_M_rowSize cu pa 1 sx) fun o_27 =>
    if o_17.1 = 0 then
      Option.bind (fn_M_eat en pg o_17.2 2) fun o_38 =>
      if o_38.1 = 0 then
        some (0, o_38.2, sx, tk, cu, pa, re, cl, si, lt, rd)
      else
        fb_M_testLine_44 en pg o_38.2 sx tk cu pa re cl si lt rd o_17.1 o_27
    else
      fb_M_testLine_44 en pg o_17.2 sx tk cu pa re cl si lt rd o_17.1 o_27
def fb_M_line_48 (en : Int32) (pg : Nat → Int32)  (mt : Int32) (sx : Int32) (pl : Int32) (ov : Int32) (tk : Int32) (cu : Nat → Int32) (pa : Nat → Int32) (re : Nat → Int32) (cl : Nat → Int32) (si : Nat → Int32) (lt : Nat → Int32) (rd : Nat → Int32) (x1 : Int32) (y0 : Int32) : Option (Int32 × Int32 × Int32 × Int32 × Int32 × Int32 × (Nat → Int32) × (Nat → Int32) × (Nat → Int32) × (Nat → Int32) × (Nat → Int32) × (Nat → Int32) × (Nat → Int32)) :=
  Option.bind (fn_M_plan en sx cu pa pg mt pl ov x1 y0) fun o_52 =>
  if o_52.1 = 0 then
    Option.bind (fn_M_bail en sx pg o_52.2.1 o_52.2.2.2 x1) fun o_60 =>
    if o_60.1 = 0 then
      Option.bind (fn_M_subtest en pg o_60.2.1 sx tk cu pa re cl si lt rd x1 y0) fun o_69 =>
      if o_69.1 = 0 then
        Option.bind (fn_M_testLine en pg o_69.2.1 o_69.2.2.1 o_69.2.2.2.1 o_69.2.2.2.2.1 o_69.2.2.2.2.2.1 o_69.2.2.2.2.2.2.1 o_69.2.2.2.2.2.2.2.1 o_69.2.2.2.2.2.2.2.2.1 o_69.2.2.2.2.2.2.2.2.2.1 o_69.2.2.2.2.2.2.2.2.2.2 x1 y0) fun o_78 =>
        if o_78.1 = 0 then
          some (0, o_78.2.1, o_78.2.2.1, o_52.2.2.1, o_60.2.2, o_78.2.2.2.1, o_78.2.2.2.2.1, o_78.2.2.2.2.2.1, o_78.2.2.2.2.2.2.1, o_78.2.2.2.2.2.2.2.1, o_78.2.2.2.2.2.2.2.2.1, o_78.2.2.2.2.2.2.2.2.2.1, o_78.2.2.2.2.2.2.2.2.2.2)
        else
          some (1, o_78.2.1, o_78.2.2.1, o_52.2.2.1, o_60.2.2, o_78.2.2.2.1, o_78.2.2.2.2.1, o_78.2.2.2.2.2.1, o_78.2.2.2.2.2.2.1, o_78.2.2.2.2.2.2.2.1, o_78.2.2.2.2.2.2.2.2.1, o_78.2.2.2.2.2.2.2.2.2.1, o_78.2.2.2.2.2.2.2.2.2.2)
      else
        some (1, o_69.2.1, o_69.2.2.1, o_52.2.2.1, o_60.2.2, o_69.2.2.2.1, o_69.2.2.2.2.1, o_69.2.2.2.2.2.1, o_69.2.2.2.2.2.2.1, o_69.2.2.2.2.2.2.2.1, o_69.2.2.2.2.2.2.2.2.1, o_69.2.2.2.2.2.2.2.2.2.1, o_69.2.2.2.2.2.2.2.2.2.2)
    else
      some (1, o_60.2.1, sx, o_52.2.2.1, o_60.2.2, tk, cu, pa, re, cl, si, lt, rd)
  else
    some (1, o_52.2.1, sx, o_52.2.2.1, o_52.2.2.2, tk, cu, pa, re, cl, si, lt, rd)
def fn_M_line (en : Int32) (pg : Nat → Int32) (mt : Int32) (sx : Int32) (pl : Int32) (ov : Int32) (tk : Int32) (cu : Nat → Int32) (pa : Nat → Int32) (re : Nat → Int32) (cl : Nat → Int32) (si : Nat → Int32) (lt : Nat → Int32) (rd : Nat → Int32) (x1 : Int32) : Option (Int32 × Int32 × Int32 × Int32 × Int32 × Int32 × (Nat → Int32) × (Nat → Int32) × (Nat → Int32) × (Nat → Int32) × (Nat → Int32) × (Nat → Int32) × (Nat → Int32)) :=
  if ov = 0 then
    if pl = 0 then
      if 0 ≤ sx then
        Option.bind (fn_M_depthOf pa 1 sx) fun o_43 =>
        fb_M_line_48 en pg x1 sx pl ov tk cu pa re cl si lt rd x1 (o_43 + 1)
      else
        fb_M_line_48 en pg x1 sx pl ov tk cu pa re cl si lt rd x1 0
    else
      Option.bind (fn_M_closing en cu pa re si lt pg x1 sx pl tk cl rd) fun o_22 =>
      jv_gd (jv_zb o_22.1) <|
      some (o_22.1, o_22.2.1, o_22.2.2.1, o_22.2.2.2.1, ov, o_22.2.2.2.2.1, cu, pa, re, o_22.2.2.2.2.2.1, si, lt, o_22.2.2.2.2.2.2)
  else
    some (0, mt, sx, pl, ov, tk, cu, pa, re, cl, si, lt, rd)
def fb_M_adopt_88   (k88 : (Nat → Int32) × (Nat → Int32) × (Nat → Int32) × (Nat → Int32) × (Nat → Int32) × (Nat → Int32) × Int32 → Option ((Nat → Int32) × (Nat → Int32) × (Nat → Int32) × (Nat → Int32) × (Nat → Int32) × (Nat → Int32))) (cu : Nat → Int32) (pa : Nat → Int32) (re : Nat → Int32) (cl : Nat → Int32) (si : Nat → Int32) (lt : Nat → Int32) (x1 : Int32) : Option ((Nat → Int32) × (Nat → Int32) × (Nat → Int32) × (Nat → Int32) × (Nat → Int32) × (Nat → Int32)) :=
  if 144 ≤ x1 then
    some (cu, pa, re, cl, si, lt)
  else
    jv_gd (jv_ig (144 + x1) 288) <|
    jv_gd (jv_ig x1 288) <|
    k88 (cu, pa, re, cl, si, upd lt x1.toNatClampNeg (vp_nar .char (lt (144 + x1).toNatClampNeg)), x1 + 1)
def fl_M_adopt_88   : Nat → (Nat → Int32) × (Nat → Int32) × (Nat → Int32) × (Nat → Int32) × (Nat → Int32) × (Nat → Int32) × Int32 → Option ((Nat → Int32) × (Nat → Int32) × (Nat → Int32) × (Nat → Int32) × (Nat → Int32) × (Nat → Int32)) := jv_lp (fun k z => fb_M_adopt_88   k z.1 z.2.1 z.2.2.1 z.2.2.2.1 z.2.2.2.2.1 z.2.2.2.2.2.1 z.2.2.2.2.2.2)
def fb_M_adopt_14   (k14 : (Nat → Int32) × (Nat → Int32) × (Nat → Int32) × (Nat → Int32) × (Nat → Int32) × (Nat → Int32) × Int32 → Option ((Nat → Int32) × (Nat → Int32) × (Nat → Int32) × (Nat → Int32) × (Nat → Int32) × (Nat → Int32))) (cu : Nat → Int32) (pa : Nat → Int32) (re : Nat → Int32) (cl : Nat → Int32) (si : Nat → Int32) (lt : Nat → Int32) (x1 : Int32) : Option ((Nat → Int32) × (Nat → Int32) × (Nat → Int32) × (Nat → Int32) × (Nat → Int32) × (Nat → Int32)) :=
  if 24 ≤ x1 then
    fl_M_adopt_88 4000 (cu, pa, re, cl, si, lt, 0)
  else
    jv_gd (jv_ig (24 + x1) 48) <|
    jv_gd (jv_ig x1 48) <|
    jv_gd (jv_ig (24 + x1) 48) <|
    jv_gd (jv_ig x1 48) <|
    jv_gd (jv_ig (24 + x1) 48) <|
    jv_gd (jv_ig x1 48) <|
    jv_gd (jv_ig (24 + x1) 48) <|
    jv_gd (jv_ig x1 48) <|
    k14 (cu, upd pa x1.toNatClampNeg (pa (24 + x1).toNatClampNeg), upd re x1.toNatClampNeg (re (24 + x1).toNatClampNeg), upd cl x1.toNatClampNeg (vp_nar .boolean (cl (24 + x1).toNatClampNeg)), upd si x1.toNatClampNeg (si (24 + x1).toNatClampNeg), lt, x1 + 1)
def fl_M_adopt_14   : Nat → (Nat → Int32) × (Nat → Int32) × (Nat → Int32) × (Nat → Int32) × (Nat → Int32) × (Nat → Int32) × Int32 → Option ((Nat → Int32) × (Nat → Int32) × (Nat → Int32) × (Nat → Int32) × (Nat → Int32) × (Nat → Int32)) := jv_lp (fun k z => fb_M_adopt_14   k z.1 z.2.1 z.2.2.1 z.2.2.2.1 z.2.2.2.2.1 z.2.2.2.2.2.1 z.2.2.2.2.2.2)
def fn_M_adopt  (cu : Nat → Int32) (pa : Nat → Int32) (re : Nat → Int32) (cl : Nat → Int32) (si : Nat → Int32) (lt : Nat → Int32)  : Option ((Nat → Int32) × (Nat → Int32) × (Nat → Int32) × (Nat → Int32) × (Nat → Int32) × (Nat → Int32)) :=
  jv_gd (jv_ig 1 2) <|
  jv_gd (jv_ig 0 2) <|
  fl_M_adopt_14 4000 (upd cu (0 : Int32).toNatClampNeg (cu (1 : Int32).toNatClampNeg), pa, re, cl, si, lt, 0)
def fb_M_read_157 (ln : Int32) (pg : Nat → Int32)  (mt : Int32) (en : Int32) (sx : Int32) (pl : Int32) (ov : Int32) (tk : Int32) (cu : Nat → Int32) (pa : Nat → Int32) (re : Nat → Int32) (cl : Nat → Int32) (si : Nat → Int32) (lt : Nat → Int32) (rd : Nat → Int32) (x2 : Int32) (x3 : Int32) : Option (Int32 × Int32 × Int32 × Int32 × Int32 × Int32 × Int32 × (Nat → Int32) × (Nat → Int32) × (Nat → Int32) × (Nat → Int32) × (Nat → Int32) × (Nat → Int32) × (Nat → Int32)) :=
  if x3 = 0 then
    some (-x2, mt, en, sx, pl, ov, tk, cu, pa, re, cl, si, lt, rd)
  else
    if ov = 0 then
      some (-x2, mt, en, sx, pl, ov, tk, cu, pa, re, cl, si, lt, rd)
    else
      Option.bind (fn_M_adopt cu pa re cl si lt) fun o_172 =>
      some (0, mt, en, sx, pl, ov, tk, o_172.1, o_172.2.1, o_172.2.2.1, o_172.2.2.2.1, o_172.2.2.2.2.1, o_172.2.2.2.2.2, rd)
def fb_M_read_139 (ln : Int32) (pg : Nat → Int32) (k28 : Int32 × Int32 × Int32 × Int32 × Int32 × Int32 × (Nat → Int32) × (Nat → Int32) × (Nat → Int32) × (Nat → Int32) × (Nat → Int32) × (Nat → Int32) × (Nat → Int32) × Int32 × Int32 × Int32 → Option (Int32 × Int32 × Int32 × Int32 × Int32 × Int32 × Int32 × (Nat → Int32) × (Nat → Int32) × (Nat → Int32) × (Nat → Int32) × (Nat → Int32) × (Nat → Int32) × (Nat → Int32))) (mt : Int32) (en : Int32) (sx : Int32) (pl : Int32) (ov : Int32) (tk : Int32) (cu : Nat → Int32) (pa : Nat → Int32) (re : Nat → Int32) (cl : Nat → Int32) (si : Nat → Int32) (lt : Nat → Int32) (rd : Nat → Int32) (x1 : Int32) (x2 : Int32) (y0 : Int32) : Option (Int32 × Int32 × Int32 × Int32 × Int32 × Int32 × Int32 × (Nat → Int32) × (Nat → Int32) × (Nat → Int32) × (Nat → Int32) × (Nat → Int32) × (Nat → Int32) × (Nat → Int32)) :=
  if y0 = 0 then
    k28 (mt, en, sx, pl, ov, tk, cu, pa, re, cl, si, lt, rd, x1, x2, y0)
  else
    k28 (mt, en, sx, pl, ov, tk, cu, pa, re, cl, si, lt, rd, en + 1, x2 + 1, y0)
def fb_M_read_83 (ln : Int32) (pg : Nat → Int32) (k28 : Int32 × Int32 × Int32 × Int32 × Int32 × Int32 × (Nat → Int32) × (Nat → Int32) × (Nat → Int32) × (Nat → Int32) × (Nat → Int32) × (Nat → Int32) × (Nat → Int32) × Int32 × Int32 × Int32 → Option (Int32 × Int32 × Int32 × Int32 × Int32 × Int32 × Int32 × (Nat → Int32) × (Nat → Int32) × (Nat → Int32) × (Nat → Int32) × (Nat → Int32) × (Nat → Int32) × (Nat → Int32))) (mt : Int32) (en : Int32) (sx : Int32) (pl : Int32) (ov : Int32) (tk : Int32) (cu : Nat → Int32) (pa : Nat → Int32) (re : Nat → Int32) (cl : Nat → Int32) (si : Nat → Int32) (lt : Nat → Int32) (rd : Nat → Int32) (x1 : Int32) (x2 : Int32) : Option (Int32 × Int32 × Int32 × Int32 × Int32 × Int32 × Int32 × (Nat → Int32) × (Nat → Int32) × (Nat → Int32) × (Nat → Int32) × (Nat → Int32) × (Nat → Int32) × (Nat → Int32)) :=
  if ln ≤ en then
    fb_M_read_139 ln pg k28 x1 en sx pl ov tk cu pa re cl si lt rd x1 x2 0
  else
    if x2 = 1 then
      Option.bind (fn_M_eat en pg x1 0) fun o_106 =>
      if o_106.1 = 0 then
        fb_M_read_139 ln pg k28 o_106.2 en sx pl ov tk cu pa re cl si lt rd x1 x2 0
      else
        if o_106.2 = en then
          fb_M_read_139 ln pg k28 o_106.2 en sx pl ov tk cu pa re cl si lt rd x1 x2 1
        else
          fb_M_read_139 ln pg k28 o_106.2 en sx pl ov tk cu pa re cl si lt rd x1 x2 0
    else
      Option.bind (fn_M_line en pg x1 sx pl ov tk cu pa re cl si lt rd x1) fun o_128 =>
      if o_128.1 = 0 then
        fb_M_read_139 ln pg k28 o_128.2.1 en o_128.2.2.1 o_128.2.2.2.1 o_128.2.2.2.2.1 o_128.2.2.2.2.2.1 o_128.2.2.2.2.2.2.1 o_128.2.2.2.2.2.2.2.1 o_128.2.2.2.2.2.2.2.2.1 o_128.2.2.2.2.2.2.2.2.2.1 o_128.2.2.2.2.2.2.2.2.2.2.1 o_128.2.2.2.2.2.2.2.2.2.2.2.1 o_128.2.2.2.2.2.2.2.2.2.2.2.2 x1 x2 0
      else
        fb_M_read_139 ln pg k28 o_128.2.1 en o_128.2.2.1 o_128.2.2.2.1 o_128.2.2.2.2.1 o_128.2.2.2.2.2.1 o_128.2.2.2.2.2.2.1 o_128.2.2.2.2.2.2.2.1 o_128.2.2.2.2.2.2.2.2.1 o_128.2.2.2.2.2.2.2.2.2.1 o_128.2.2.2.2.2.2.2.2.2.2.1 o_128.2.2.2.2.2.2.2.2.2.2.2.1 o_128.2.2.2.2.2.2.2.2.2.2.2.2 x1 x2 1
def fb_M_read_45 (ln : Int32) (pg : Nat → Int32) (k28 : Int32 × Int32 × Int32 × Int32 × Int32 × Int32 × (Nat → Int32) × (Nat → Int32) × (Nat → Int32) × (Nat → Int32) × (Nat → Int32) × (Nat → Int32) × (Nat → Int32) × Int32 × Int32 × Int32 → Option (Int32 × Int32 × Int32 × Int32 × Int32 × Int32 × Int32 × (Nat → Int32) × (Nat → Int32) × (Nat → Int32) × (Nat → Int32) × (Nat → Int32) × (Nat → Int32) × (Nat → Int32))) (k45 : Int32 × Int32 × Int32 × Int32 × Int32 × Int32 × (Nat → Int32) × (Nat → Int32) × (Nat → Int32) × (Nat → Int32) × (Nat → Int32) × (Nat → Int32) × (Nat → Int32) × Int32 × Int32 → Option (Int32 × Int32 × Int32 × Int32 × Int32 × Int32 × Int32 × (Nat → Int32) × (Nat → Int32) × (Nat → Int32) × (Nat → Int32) × (Nat → Int32) × (Nat → Int32) × (Nat → Int32))) (mt : Int32) (en : Int32) (sx : Int32) (pl : Int32) (ov : Int32) (tk : Int32) (cu : Nat → Int32) (pa : Nat → Int32) (re : Nat → Int32) (cl : Nat → Int32) (si : Nat → Int32) (lt : Nat → Int32) (rd : Nat → Int32) (x1 : Int32) (x2 : Int32) : Option (Int32 × Int32 × Int32 × Int32 × Int32 × Int32 × Int32 × (Nat → Int32) × (Nat → Int32) × (Nat → Int32) × (Nat → Int32) × (Nat → Int32) × (Nat → Int32) × (Nat → Int32)) :=
  if ln ≤ en then
    fb_M_read_83 ln pg k28 mt en sx pl ov tk cu pa re cl si lt rd x1 x2
  else
    jv_gd (jv_ig en 3000) <|
    if (pg en.toNatClampNeg) = 10 then
      fb_M_read_83 ln pg k28 mt en sx pl ov tk cu pa re cl si lt rd x1 x2
    else
      k45 (mt, en + 1, sx, pl, ov, tk, cu, pa, re, cl, si, lt, rd, x1, x2)
def fl_M_read_45 (ln : Int32) (pg : Nat → Int32) (k28 : Int32 × Int32 × Int32 × Int32 × Int32 × Int32 × (Nat → Int32) × (Nat → Int32) × (Nat → Int32) × (Nat → Int32) × (Nat → Int32) × (Nat → Int32) × (Nat → Int32) × Int32 × Int32 × Int32 → Option (Int32 × Int32 × Int32 × Int32 × Int32 × Int32 × Int32 × (Nat → Int32) × (Nat → Int32) × (Nat → Int32) × (Nat → Int32) × (Nat → Int32) × (Nat → Int32) × (Nat → Int32))) : Nat → Int32 × Int32 × Int32 × Int32 × Int32 × Int32 × (Nat → Int32) × (Nat → Int32) × (Nat → Int32) × (Nat → Int32) × (Nat → Int32) × (Nat → Int32) × (Nat → Int32) × Int32 × Int32 → Option (Int32 × Int32 × Int32 × Int32 × Int32 × Int32 × Int32 × (Nat → Int32) × (Nat → Int32) × (Nat → Int32) × (Nat → Int32) × (Nat → Int32) × (Nat → Int32) × (Nat → Int32)) := jv_lp (fun k z => fb_M_read_45 ln pg k28 k z.1 z.2.1 z.2.2.1 z.2.2.2.1 z.2.2.2.2.1 z.2.2.2.2.2.1 z.2.2.2.2.2.2.1 z.2.2.2.2.2.2.2.1 z.2.2.2.2.2.2.2.2.1 z.2.2.2.2.2.2.2.2.2.1 z.2.2.2.2.2.2.2.2.2.2.1 z.2.2.2.2.2.2.2.2.2.2.2.1 z.2.2.2.2.2.2.2.2.2.2.2.2.1 z.2.2.2.2.2.2.2.2.2.2.2.2.2.1 z.2.2.2.2.2.2.2.2.2.2.2.2.2.2)
def fb_M_read_28 (ln : Int32) (pg : Nat → Int32)  (k28 : Int32 × Int32 × Int32 × Int32 × Int32 × Int32 × (Nat → Int32) × (Nat → Int32) × (Nat → Int32) × (Nat → Int32) × (Nat → Int32) × (Nat → Int32) × (Nat → Int32) × Int32 × Int32 × Int32 → Option (Int32 × Int32 × Int32 × Int32 × Int32 × Int32 × Int32 × (Nat → Int32) × (Nat → Int32) × (Nat → Int32) × (Nat → Int32) × (Nat → Int32) × (Nat → Int32) × (Nat → Int32))) (mt : Int32) (en : Int32) (sx : Int32) (pl : Int32) (ov : Int32) (tk : Int32) (cu : Nat → Int32) (pa : Nat → Int32) (re : Nat → Int32) (cl : Nat → Int32) (si : Nat → Int32) (lt : Nat → Int32) (rd : Nat → Int32) (x1 : Int32) (x2 : Int32) (x3 : Int32) : Option (Int32 × Int32 × Int32 × Int32 × Int32 × Int32 × Int32 × (Nat → Int32) × (Nat → Int32) × (Nat → Int32) × (Nat → Int32) × (Nat → Int32) × (Nat → Int32) × (Nat → Int32)) :=
  if x3 = 0 then
    fb_M_read_157 ln pg mt en sx pl ov tk cu pa re cl si lt rd x2 x3
  else
    if ln ≤ x1 then
      fb_M_read_157 ln pg mt en sx pl ov tk cu pa re cl si lt rd x2 x3
    else
      fl_M_read_45 ln pg k28 4000 (mt, x1, sx, pl, ov, tk, cu, pa, re, cl, si, lt, rd, x1, x2)
def fl_M_read_28 (ln : Int32) (pg : Nat → Int32)  : Nat → Int32 × Int32 × Int32 × Int32 × Int32 × Int32 × (Nat → Int32) × (Nat → Int32) × (Nat → Int32) × (Nat → Int32) × (Nat → Int32) × (Nat → Int32) × (Nat → Int32) × Int32 × Int32 × Int32 → Option (Int32 × Int32 × Int32 × Int32 × Int32 × Int32 × Int32 × (Nat → Int32) × (Nat → Int32) × (Nat → Int32) × (Nat → Int32) × (Nat → Int32) × (Nat → Int32) × (Nat → Int32)) := jv_lp (fun k z => fb_M_read_28 ln pg  k z.1 z.2.1 z.2.2.1 z.2.2.2.1 z.2.2.2.2.1 z.2.2.2.2.2.1 z.2.2.2.2.2.2.1 z.2.2.2.2.2.2.2.1 z.2.2.2.2.2.2.2.2.1 z.2.2.2.2.2.2.2.2.2.1 z.2.2.2.2.2.2.2.2.2.2.1 z.2.2.2.2.2.2.2.2.2.2.2.1 z.2.2.2.2.2.2.2.2.2.2.2.2.1 z.2.2.2.2.2.2.2.2.2.2.2.2.2.1 z.2.2.2.2.2.2.2.2.2.2.2.2.2.2.1 z.2.2.2.2.2.2.2.2.2.2.2.2.2.2.2)
def fn_M_read (ln : Int32) (pg : Nat → Int32) (mt : Int32) (en : Int32) (sx : Int32) (pl : Int32) (ov : Int32) (tk : Int32) (cu : Nat → Int32) (pa : Nat → Int32) (re : Nat → Int32) (cl : Nat → Int32) (si : Nat → Int32) (lt : Nat → Int32) (rd : Nat → Int32)  : Option (Int32 × Int32 × Int32 × Int32 × Int32 × Int32 × Int32 × (Nat → Int32) × (Nat → Int32) × (Nat → Int32) × (Nat → Int32) × (Nat → Int32) × (Nat → Int32) × (Nat → Int32)) :=
  jv_gd (jv_ig 1 2) <|
  fl_M_read_28 ln pg 4000 (mt, en, (-1), 0, 0, tk, upd cu (1 : Int32).toNatClampNeg 0, pa, re, cl, si, lt, rd, 0, 1, 1)
def fn_M_length (ln : Int32)   : Option (Int32) :=
  some ln
def fn_M_at (ln : Int32) (pg : Nat → Int32)  (x1 : Int32) : Option (Int32) :=
  if x1 < 0 then
    some (-1)
  else
    if ln ≤ x1 then
      some (-1)
    else
      jv_gd (jv_ig x1 3000) <|
      some (pg x1.toNatClampNeg)
def fn_M_fits   (x0 : Int32) : Option (Int32) :=
  if x0 = 10 then
    some 1
  else
    if x0 < 32 then
      some 0
    else
      if 126 < x0 then
        some 0
      else
        some 1
def fn_M_put  (ln : Int32) (pg : Nat → Int32) (x1 : Int32) : Option (Int32 × Int32 × (Nat → Int32)) :=
  Option.bind (fn_M_fits x1) fun o_1 =>
  if o_1 = 0 then
    some (0, ln, pg)
  else
    if ln = 3000 then
      some (0, ln, pg)
    else
      jv_gd (jv_ig ln 3000) <|
      some (1, ln + 1, upd pg ln.toNatClampNeg (vp_nar .char x1))
def fn_M_poke (ln : Int32) (pg : Nat → Int32) (x1 : Int32) (x2 : Int32) : Option (Int32 × (Nat → Int32)) :=
  if x1 < 0 then
    some (0, pg)
  else
    if ln ≤ x1 then
      some (0, pg)
    else
      Option.bind (fn_M_fits x2) fun o_13 =>
      if o_13 = 0 then
        some (0, pg)
      else
        jv_gd (jv_ig x1 3000) <|
        some (1, upd pg x1.toNatClampNeg (vp_nar .char x2))
def fn_M_cut  (ln : Int32) (x1 : Int32) : Option (Int32 × Int32) :=
  if x1 < 0 then
    some (0, ln)
  else
    if x1 ≤ ln then
      some (1, x1)
    else
      some (0, ln)
def fb_M_sameName_24 (si : Nat → Int32) (lt : Nat → Int32)  (k24 : Int32 × Int32 × Int32 × Int32 → Option (Int32)) (x1 : Int32) (x2 : Int32) (x3 : Int32) (x4 : Int32) : Option (Int32) :=
  jv_gd (jv_ig x1 48) <|
  if (si x1.toNatClampNeg) ≤ x4 then
    jv_gd (jv_zb x3) <|
    some x3
  else
    if x3 = 0 then
      jv_gd (jv_zb x3) <|
      some x3
    else
      jv_gd (jv_ig ((6 * x1) + x4) 288) <|
      jv_gd (jv_ig ((6 * x2) + x4) 288) <|
      if (lt ((6 * x1) + x4).toNatClampNeg) = (lt ((6 * x2) + x4).toNatClampNeg) then
        k24 (x1, x2, 1, x4 + 1)
      else
        k24 (x1, x2, 0, x4 + 1)
def fl_M_sameName_24 (si : Nat → Int32) (lt : Nat → Int32)  : Nat → Int32 × Int32 × Int32 × Int32 → Option (Int32) := jv_lp (fun k z => fb_M_sameName_24 si lt  k z.1 z.2.1 z.2.2.1 z.2.2.2)
def fn_M_sameName (si : Nat → Int32) (lt : Nat → Int32)  (x1 : Int32) (x2 : Int32) : Option (Int32) :=
  jv_gd (jv_ig x1 48) <|
  jv_gd (jv_ig x2 48) <|
  if (si x1.toNatClampNeg) = (si x2.toNatClampNeg) then
    fl_M_sameName_24 si lt 4000 (x1, x2, 1, 0)
  else
    fl_M_sameName_24 si lt 4000 (x1, x2, 0, 0)
def fb_M_alike_84 (pa : Nat → Int32) (re : Nat → Int32) (si : Nat → Int32) (lt : Nat → Int32)  (x3 : Int32) (x4 : Int32) (x5 : Int32) : Option (Int32) :=
  if x3 = 0 then
    some 0
  else
    if 0 ≤ x4 then
      some 0
    else
      if 0 ≤ x5 then
        some 0
      else
        some 1
def fb_M_alike_62 (pa : Nat → Int32) (re : Nat → Int32) (si : Nat → Int32) (lt : Nat → Int32) (k32 : Int32 × Int32 × Int32 → Option (Int32)) (x4 : Int32) (x5 : Int32) (y0 : Int32) : Option (Int32) :=
  jv_gd (jv_ig x4 48) <|
  jv_gd (jv_ig x5 48) <|
  k32 (y0, pa x4.toNatClampNeg, pa x5.toNatClampNeg)
def fb_M_alike_32 (pa : Nat → Int32) (re : Nat → Int32) (si : Nat → Int32) (lt : Nat → Int32)  (k32 : Int32 × Int32 × Int32 → Option (Int32)) (x3 : Int32) (x4 : Int32) (x5 : Int32) : Option (Int32) :=
  if x4 < 0 then
    fb_M_alike_84 pa re si lt x3 x4 x5
  else
    if x5 < 0 then
      fb_M_alike_84 pa re si lt x3 x4 x5
    else
      if x3 = 0 then
        fb_M_alike_62 pa re si lt k32 x4 x5 0
      else
        Option.bind (fn_M_sameName si lt x4 x5) fun o_51 =>
        if o_51 = 0 then
          fb_M_alike_62 pa re si lt k32 x4 x5 0
        else
          fb_M_alike_62 pa re si lt k32 x4 x5 1
def fl_M_alike_32 (pa : Nat → Int32) (re : Nat → Int32) (si : Nat → Int32) (lt : Nat → Int32)  : Nat → Int32 × Int32 × Int32 → Option (Int32) := jv_lp (fun k z => fb_M_alike_32 pa re si lt  k z.1 z.2.1 z.2.2)
def fn_M_alike (pa : Nat → Int32) (re : Nat → Int32) (si : Nat → Int32) (lt : Nat → Int32)  (x1 : Int32) (x2 : Int32) : Option (Int32) :=
  jv_gd (jv_ig x1 48) <|
  if 4 ≤ (re x1.toNatClampNeg) then
    fl_M_alike_32 pa re si lt 4000 (0, x1, x2)
  else
    jv_gd (jv_ig x2 48) <|
    if 4 ≤ (re x2.toNatClampNeg) then
      fl_M_alike_32 pa re si lt 4000 (0, x1, x2)
    else
      fl_M_alike_32 pa re si lt 4000 (1, x1, x2)
def fb_M_attempts_24 (cu : Nat → Int32) (pa : Nat → Int32) (re : Nat → Int32) (si : Nat → Int32) (lt : Nat → Int32)  (k24 : Int32 × Int32 × Int32 → Option (Int32)) (x1 : Int32) (x2 : Int32) (x3 : Int32) : Option (Int32) :=
  jv_gd (jv_ig 0 2) <|
  if (cu (0 : Int32).toNatClampNeg) ≤ x3 then
    some x2
  else
    Option.bind (fn_M_alike pa re si lt x3 x1) fun o_38 =>
    if o_38 = 0 then
      k24 (x1, x2 + 0, x3 + 1)
    else
      k24 (x1, x2 + 1, x3 + 1)
def fl_M_attempts_24 (cu : Nat → Int32) (pa : Nat → Int32) (re : Nat → Int32) (si : Nat → Int32) (lt : Nat → Int32)  : Nat → Int32 × Int32 × Int32 → Option (Int32) := jv_lp (fun k z => fb_M_attempts_24 cu pa re si lt  k z.1 z.2.1 z.2.2)
def fn_M_attempts (cu : Nat → Int32) (pa : Nat → Int32) (re : Nat → Int32) (si : Nat → Int32) (lt : Nat → Int32)  (x1 : Int32) : Option (Int32) :=
  Option.bind (fn_M_node cu x1) fun o_2 =>
  if o_2 = 0 then
    some (-1)
  else
    jv_gd (jv_ig x1 48) <|
    if (re x1.toNatClampNeg) = 4 then
      some (-1)
    else
      fl_M_attempts_24 cu pa re si lt 4000 (x1, 0, 0)
def fb_M_flaky_75 (cu : Nat → Int32) (pa : Nat → Int32) (re : Nat → Int32) (si : Nat → Int32) (lt : Nat → Int32) (k27 : Int32 × Int32 × Int32 × Int32 → Option (Int32)) (x1 : Int32) (x2 : Int32) (x4 : Int32) (x5 : Int32) (y0 : Int32) : Option (Int32) :=
  if x2 = 0 then
    if x5 = 0 then
      k27 (x1, 0, y0, x4 + 1)
    else
      jv_gd (jv_ig x4 48) <|
      if (re x4.toNatClampNeg) = 1 then
        k27 (x1, 1, y0, x4 + 1)
      else
        k27 (x1, 0, y0, x4 + 1)
  else
    k27 (x1, 1, y0, x4 + 1)
def fb_M_flaky_27 (cu : Nat → Int32) (pa : Nat → Int32) (re : Nat → Int32) (si : Nat → Int32) (lt : Nat → Int32)  (k27 : Int32 × Int32 × Int32 × Int32 → Option (Int32)) (x1 : Int32) (x2 : Int32) (x3 : Int32) (x4 : Int32) : Option (Int32) :=
  jv_gd (jv_ig 0 2) <|
  if (cu (0 : Int32).toNatClampNeg) ≤ x4 then
    jv_gd (jv_zb x3) <|
    some x3
  else
    Option.bind (fn_M_alike pa re si lt x4 x1) fun o_42 =>
    if x3 = 0 then
      if o_42 = 0 then
        fb_M_flaky_75 cu pa re si lt k27 x1 x2 x4 o_42 0
      else
        if x2 = 0 then
          fb_M_flaky_75 cu pa re si lt k27 x1 x2 x4 o_42 0
        else
          jv_gd (jv_ig x4 48) <|
          if (re x4.toNatClampNeg) = 0 then
            fb_M_flaky_75 cu pa re si lt k27 x1 x2 x4 o_42 1
          else
            fb_M_flaky_75 cu pa re si lt k27 x1 x2 x4 o_42 0
    else
      fb_M_flaky_75 cu pa re si lt k27 x1 x2 x4 o_42 1
def fl_M_flaky_27 (cu : Nat → Int32) (pa : Nat → Int32) (re : Nat → Int32) (si : Nat → Int32) (lt : Nat → Int32)  : Nat → Int32 × Int32 × Int32 × Int32 → Option (Int32) := jv_lp (fun k z => fb_M_flaky_27 cu pa re si lt  k z.1 z.2.1 z.2.2.1 z.2.2.2)
def fn_M_flaky (cu : Nat → Int32) (pa : Nat → Int32) (re : Nat → Int32) (si : Nat → Int32) (lt : Nat → Int32)  (x1 : Int32) : Option (Int32) :=
  Option.bind (fn_M_node cu x1) fun o_2 =>
  if o_2 = 0 then
    some 0
  else
    jv_gd (jv_ig x1 48) <|
    if (re x1.toNatClampNeg) = 4 then
      some 0
    else
      fl_M_flaky_27 cu pa re si lt 4000 (x1, 0, 0, 0)
def fb_C_skipNumber_17 (le : Int32) (ch : Nat → Int32)  (sp : Int32) (x1 : Int32) : Option (Int32 × Int32) :=
  Option.bind (fn_C_skipDigit le ch sp (x1 - x1 / 10 * 10)) fun o_22 =>
  if o_22.1 = 0 then
    some (0, o_22.2)
  else
    some (1, o_22.2)
def fn_C_skipNumber (le : Int32) (ch : Nat → Int32) (sp : Int32) (x1 : Int32) : Option (Int32 × Int32) :=
  if x1 < 10 then
    fb_C_skipNumber_17 le ch sp x1
  else
    Option.bind (fn_C_skipDigit le ch sp (x1 / 10)) fun o_11 =>
    if o_11.1 = 0 then
      some (0, o_11.2)
    else
      fb_C_skipNumber_17 le ch o_11.2 x1
def fb_C_takeName_4 (le : Int32) (ch : Nat → Int32)  (k4 : Int32 × Int64 × Int32 → Option (Int64 × Int32)) (sp : Int32) (x1 : Int64) (x3 : Int32) : Option (Int64 × Int32) :=
  if 6 ≤ x3 then
    some (x1, sp)
  else
    Option.bind (fn_C_takeLetter le ch sp) fun o_11 =>
    if o_11.1 = 0 then
      some (x1, o_11.2)
    else
      Option.bind (fn_N_withLetter x1 x3 o_11.1) fun o_27 =>
      k4 (o_11.2, o_27, x3 + 1)
def fl_C_takeName_4 (le : Int32) (ch : Nat → Int32)  : Nat → Int32 × Int64 × Int32 → Option (Int64 × Int32) := jv_lp (fun k z => fb_C_takeName_4 le ch  k z.1 z.2.1 z.2.2)
def fn_C_takeName (le : Int32) (ch : Nat → Int32) (sp : Int32)  : Option (Int64 × Int32) :=
  fl_C_takeName_4 le ch 4000 (sp, 0, 0)
def fb_N_sizeOf_2   (k2 : Int64 × Int32 → Option (Int32)) (x0 : Int64) (x2 : Int32) : Option (Int32) :=
  if 6 ≤ x2 then
    some x2
  else
    Option.bind (fn_N_codeAt x0 x2) fun o_10 =>
    if o_10 = 0 then
      some x2
    else
      k2 (x0, x2 + 1)
def fl_N_sizeOf_2   : Nat → Int64 × Int32 → Option (Int32) := jv_lp (fun k z => fb_N_sizeOf_2   k z.1 z.2)
def fn_N_sizeOf   (x0 : Int64) : Option (Int32) :=
  fl_N_sizeOf_2 4000 (x0, 0)
def fb_P_addWritten_44  (k8 : Int32 × (Nat → Int32) × Int64 × Int32 × Int32 → Option (Int32 × (Nat → Int32))) (sz : Int32) (ch : Nat → Int32) (x1 : Int64) (x3 : Int32) (x4 : Int32) (x5 : Int32) : Option (Int32 × (Nat → Int32)) :=
  Option.bind (fn_P_add sz ch x5) fun o_47 =>
  k8 (o_47.2.1, o_47.2.2, x1, x3, x4 + 1)
def fb_P_addWritten_8   (k8 : Int32 × (Nat → Int32) × Int64 × Int32 × Int32 → Option (Int32 × (Nat → Int32))) (sz : Int32) (ch : Nat → Int32) (x1 : Int64) (x3 : Int32) (x4 : Int32) : Option (Int32 × (Nat → Int32)) :=
  if x3 ≤ x4 then
    some (sz, ch)
  else
    Option.bind (fn_N_codeAt x1 x4) fun o_17 =>
    if ((o_17.toUInt32 % 65536).toInt32) = 92 then
      Option.bind (fn_P_add sz ch 92) fun o_40 =>
      fb_P_addWritten_44 k8 o_40.2.1 o_40.2.2 x1 x3 x4 ((o_17.toUInt32 % 65536).toInt32)
    else
      if ((o_17.toUInt32 % 65536).toInt32) = 35 then
        Option.bind (fn_P_add sz ch 92) fun o_40 =>
        fb_P_addWritten_44 k8 o_40.2.1 o_40.2.2 x1 x3 x4 ((o_17.toUInt32 % 65536).toInt32)
      else
        fb_P_addWritten_44 k8 sz ch x1 x3 x4 ((o_17.toUInt32 % 65536).toInt32)
def fl_P_addWritten_8   : Nat → Int32 × (Nat → Int32) × Int64 × Int32 × Int32 → Option (Int32 × (Nat → Int32)) := jv_lp (fun k z => fb_P_addWritten_8   k z.1 z.2.1 z.2.2.1 z.2.2.2.1 z.2.2.2.2)
def fn_P_addWritten  (sz : Int32) (ch : Nat → Int32) (x1 : Int64) : Option (Int32 × (Nat → Int32)) :=
  Option.bind (fn_N_sizeOf x1) fun o_1 =>
  fl_P_addWritten_8 4000 (sz, ch, x1, o_1, 0)
def fn_W_writeSubtest (ct : Int32) (dp : Nat → Int32) (nm : Nat → Int64) (sz : Int32) (ch : Nat → Int32) (x1 : Int32) : Option (Int32 × (Nat → Int32)) :=
  Option.bind (fn_R_depthOf ct dp x1) fun o_9 =>
  Option.bind (fn_P_addIndent sz ch o_9) fun o_12 =>
  Option.bind (fn_P_addText o_12.1 o_12.2 2) fun o_21 =>
  Option.bind (fn_R_nameOf ct nm x1) fun o_33 =>
  Option.bind (fn_P_addWritten o_21.1 o_21.2 o_33) fun o_36 =>
  Option.bind (fn_P_add o_36.1 o_36.2 10) fun o_45 =>
  some (o_45.2.1, o_45.2.2)
def fn_R_rowSize (ct : Int32) (su : Nat → Int32)  (x1 : Int32) : Option (Int32) :=
  Option.bind (fn_R_countInRow ct su x1 ct) fun o_6 =>
  some o_6
def fn_R_placeOf (ct : Int32) (su : Nat → Int32)  (x1 : Int32) : Option (Int32) :=
  Option.bind (fn_R_has ct x1) fun o_2 =>
  if o_2 = 0 then
    some (-1)
  else
    jv_gd (jv_ig x1 24) <|
    Option.bind (fn_R_countInRow ct su (su x1.toNatClampNeg) (x1 + 1)) fun o_18 =>
    some o_18
def fb_R_closeLastOpen_37 (ct : Int32) (su : Nat → Int32)  (lo : Int32) (oc : Int32) (kd : Nat → Int32) (y1 : Int32) (y2 : Int32) : Option (Int32 × Int32 × Int32 × (Nat → Int32)) :=
  jv_gd (jv_ig y1 24) <|
  jv_gd (jv_ig lo 24) <|
  some (1, su lo.toNatClampNeg, oc - 1, upd kd y1.toNatClampNeg y2)
def fn_R_closeLastOpen (ct : Int32) (su : Nat → Int32) (lo : Int32) (oc : Int32) (kd : Nat → Int32)  : Option (Int32 × Int32 × Int32 × (Nat → Int32)) :=
  Option.bind (fn_R_has ct lo) fun o_5 =>
  if o_5 = 0 then
    some (0, lo, oc, kd)
  else
    Option.bind (fn_R_hasFailedBehind ct kd lo) fun o_26 =>
    if o_26 = 0 then
      fb_R_closeLastOpen_37 ct su lo oc kd lo 4
    else
      fb_R_closeLastOpen_37 ct su lo oc kd lo 5
def fn_V_letter  (bn : Int64) (x1 : Int32) : Option (Int32 × Int64) :=
  Option.bind (fn_N_sizeOf bn) fun o_4 =>
  Option.bind (fn_V_isPlain x1) fun o_9 =>
  if o_9 = 0 then
    some (0, bn)
  else
    if o_4 < 6 then
      Option.bind (fn_N_withLetter bn o_4 x1) fun o_30 =>
      some (1, o_30)
    else
      some (0, bn)
def fn_V_open  (bn : Int64) (ct : Int32) (lo : Int32) (oc : Int32) (kd : Nat → Int32) (dp : Nat → Int32) (su : Nat → Int32) (nm : Nat → Int64)  : Option (Int32 × Int64 × Int32 × Int32 × Int32 × (Nat → Int32) × (Nat → Int32) × (Nat → Int32) × (Nat → Int64)) :=
  Option.bind (fn_V_addWithBegunName bn ct lo oc kd dp su nm 6) fun o_3 =>
  some (o_3.1, o_3.2.1, o_3.2.2.1, o_3.2.2.2.1, o_3.2.2.2.2.1, o_3.2.2.2.2.2.1, o_3.2.2.2.2.2.2.1, o_3.2.2.2.2.2.2.2.1, o_3.2.2.2.2.2.2.2.2)
def fn_V_close (ct : Int32) (su : Nat → Int32) (lo : Int32) (oc : Int32) (kd : Nat → Int32)  : Option (Int32 × Int32 × Int32 × (Nat → Int32)) :=
  Option.bind (fn_R_closeLastOpen ct su lo oc kd) fun o_4 =>
  jv_gd (jv_zb o_4.1) <|
  some (o_4.1, o_4.2.1, o_4.2.2.1, o_4.2.2.2)
def fn_V_test  (bn : Int64) (ct : Int32) (lo : Int32) (oc : Int32) (kd : Nat → Int32) (dp : Nat → Int32) (su : Nat → Int32) (nm : Nat → Int64) (x1 : Int32) : Option (Int32 × Int64 × Int32 × Int32 × Int32 × (Nat → Int32) × (Nat → Int32) × (Nat → Int32) × (Nat → Int64)) :=
  if x1 < 0 then
    some ((-1), bn, ct, lo, oc, kd, dp, su, nm)
  else
    if x1 ≤ 3 then
      Option.bind (fn_V_addWithBegunName bn ct lo oc kd dp su nm x1) fun o_13 =>
      some (o_13.1, o_13.2.1, o_13.2.2.1, o_13.2.2.2.1, o_13.2.2.2.2.1, o_13.2.2.2.2.2.1, o_13.2.2.2.2.2.2.1, o_13.2.2.2.2.2.2.2.1, o_13.2.2.2.2.2.2.2.2)
    else
      some ((-1), bn, ct, lo, oc, kd, dp, su, nm)
def fn_V_name (ct : Int32) (nm : Nat → Int64)  (x1 : Int32) (x2 : Int32) : Option (Int32) :=
  Option.bind (fn_R_nameOf ct nm x1) fun o_5 =>
  if x2 < 0 then
    some (-1)
  else
    Option.bind (fn_N_sizeOf o_5) fun o_15 =>
    if o_15 ≤ x2 then
      some (-1)
    else
      Option.bind (fn_N_codeAt o_5 x2) fun o_23 =>
      some o_23
def fn_V_put  (sz : Int32) (ch : Nat → Int32) (x1 : Int32) : Option (Int32 × Int32 × (Nat → Int32)) :=
  Option.bind (fn_V_isOfPages x1) fun o_1 =>
  if o_1 = 0 then
    some (0, sz, ch)
  else
    Option.bind (fn_P_add sz ch x1) fun o_12 =>
    if o_12.1 = 0 then
      some (0, o_12.2.1, o_12.2.2)
    else
      some (1, o_12.2.1, o_12.2.2)
def fn_V_poke (sz : Int32) (ch : Nat → Int32) (x1 : Int32) (x2 : Int32) : Option (Int32 × (Nat → Int32)) :=
  Option.bind (fn_V_isOfPages x2) fun o_1 =>
  if o_1 = 0 then
    some (0, ch)
  else
    Option.bind (fn_P_replace sz ch x1 x2) fun o_13 =>
    if o_13.1 = 0 then
      some (0, o_13.2)
    else
      some (1, o_13.2)
def fb_E_takeTest_69 (le : Int32) (ch : Nat → Int32)  (sp : Int32) (ct : Int32) (lo : Int32) (oc : Int32) (kd : Nat → Int32) (dp : Nat → Int32) (su : Nat → Int32) (nm : Nat → Int64) (x5 : Int64) (y0 : Int32) : Option (Int32 × Int32 × Int32 × Int32 × Int32 × (Nat → Int32) × (Nat → Int32) × (Nat → Int32) × (Nat → Int64)) :=
  Option.bind (fn_R_addNode ct lo oc kd dp su nm y0 x5) fun o_79 =>
  if o_79.1 < 0 then
    some (0, sp, o_79.2.1, o_79.2.2.1, o_79.2.2.2.1, o_79.2.2.2.2.1, o_79.2.2.2.2.2.1, o_79.2.2.2.2.2.2.1, o_79.2.2.2.2.2.2.2)
  else
    some (1, sp, o_79.2.1, o_79.2.2.1, o_79.2.2.2.1, o_79.2.2.2.2.1, o_79.2.2.2.2.2.1, o_79.2.2.2.2.2.2.1, o_79.2.2.2.2.2.2.2)
def fn_E_takeTest (le : Int32) (ch : Nat → Int32) (sp : Int32) (ct : Int32) (lo : Int32) (oc : Int32) (kd : Nat → Int32) (dp : Nat → Int32) (su : Nat → Int32) (nm : Nat → Int64) (x1 : Int32) (x2 : Nat) (x3 : Int32) : Option (Int32 × Int32 × Int32 × Int32 × Int32 × (Nat → Int32) × (Nat → Int32) × (Nat → Int32) × (Nat → Int64)) :=
  Option.bind (fn_R_innermost lo) fun o_8 =>
  Option.bind (fn_R_rowSize ct su o_8) fun o_11 =>
  Option.bind (fn_C_skipNumber le ch sp (o_11 + 1)) fun o_24 =>
  if o_24.1 = 0 then
    some (0, o_24.2, ct, lo, oc, kd, dp, su, nm)
  else
    Option.bind (fn_C_skipText le ch o_24.2 5) fun o_36 =>
    if o_36.1 = 0 then
      some (0, o_36.2, ct, lo, oc, kd, dp, su, nm)
    else
      Option.bind (fn_C_takeName le ch o_36.2) fun o_48 =>
      Option.bind (fn_C_skipText le ch o_48.2 x2) fun o_58 =>
      if o_58.1 = 0 then
        fb_E_takeTest_69 le ch o_58.2 ct lo oc kd dp su nm o_48.1 x1
      else
        fb_E_takeTest_69 le ch o_58.2 ct lo oc kd dp su nm o_48.1 x3
def fb_E_takeSuiteEnd_57 (le : Int32) (ch : Nat → Int32) (ct : Int32) (dp : Nat → Int32) (su : Nat → Int32) (nm : Nat → Int64)  (sp : Int32) (lo : Int32) (oc : Int32) (kd : Nat → Int32) (x1 : Int32) (y1 : Nat) : Option (Int32 × Int32 × Int32 × Int32 × (Nat → Int32)) :=
  Option.bind (fn_C_skipText le ch sp y1) fun o_57 =>
  if o_57.1 = 0 then
    some (0, o_57.2, lo, oc, kd)
  else
    Option.bind (fn_R_placeOf ct su x1) fun o_72 =>
    Option.bind (fn_C_skipNumber le ch o_57.2 o_72) fun o_75 =>
    if o_75.1 = 0 then
      some (0, o_75.2, lo, oc, kd)
    else
      Option.bind (fn_C_skipText le ch o_75.2 5) fun o_87 =>
      if o_87.1 = 0 then
        some (0, o_87.2, lo, oc, kd)
      else
        Option.bind (fn_C_takeName le ch o_87.2) fun o_97 =>
        Option.bind (fn_R_nameOf ct nm x1) fun o_105 =>
        if (lg_cmp o_97.1 o_105) = 0 then
          some (1, o_97.2, lo, oc, kd)
        else
          some (0, o_97.2, lo, oc, kd)
def fn_E_takeSuiteEnd (le : Int32) (ch : Nat → Int32) (ct : Int32) (dp : Nat → Int32) (su : Nat → Int32) (nm : Nat → Int64) (sp : Int32) (lo : Int32) (oc : Int32) (kd : Nat → Int32)  : Option (Int32 × Int32 × Int32 × Int32 × (Nat → Int32)) :=
  Option.bind (fn_R_innermost lo) fun o_4 =>
  Option.bind (fn_R_closeLastOpen ct su lo oc kd) fun o_12 =>
  Option.bind (fn_R_depthOf ct dp o_4) fun o_25 =>
  Option.bind (fn_C_skipIndent le ch sp o_25) fun o_28 =>
  if o_28.1 = 0 then
    some (0, o_28.2, o_12.2.1, o_12.2.2.1, o_12.2.2.2)
  else
    Option.bind (fn_R_kindOf ct o_12.2.2.2 o_4) fun o_43 =>
    if o_43 = 4 then
      fb_E_takeSuiteEnd_57 le ch ct dp su nm o_28.2 o_12.2.1 o_12.2.2.1 o_12.2.2.2 o_4 3
    else
      fb_E_takeSuiteEnd_57 le ch ct dp su nm o_28.2 o_12.2.1 o_12.2.2.1 o_12.2.2.2 o_4 4
def fn_W_writePlan (ct : Int32) (dp : Nat → Int32) (su : Nat → Int32) (sz : Int32) (ch : Nat → Int32) (x1 : Int32) : Option (Int32 × (Nat → Int32)) :=
  Option.bind (fn_R_rowDepth ct dp x1) fun o_9 =>
  Option.bind (fn_P_addIndent sz ch o_9) fun o_12 =>
  Option.bind (fn_P_addText o_12.1 o_12.2 8) fun o_21 =>
  Option.bind (fn_R_rowSize ct su x1) fun o_33 =>
  Option.bind (fn_P_addNumber o_21.1 o_21.2 o_33) fun o_36 =>
  Option.bind (fn_P_add o_36.1 o_36.2 10) fun o_45 =>
  some (o_45.2.1, o_45.2.2)
def fn_W_writeVerdict (ct : Int32) (kd : Nat → Int32) (dp : Nat → Int32) (su : Nat → Int32) (nm : Nat → Int64) (sz : Int32) (ch : Nat → Int32) (x1 : Int32) : Option (Int32 × (Nat → Int32)) :=
  Option.bind (fn_R_kindOf ct kd x1) fun o_5 =>
  Option.bind (fn_R_depthOf ct dp x1) fun o_18 =>
  Option.bind (fn_P_addIndent sz ch o_18) fun o_21 =>
  Option.bind (fn_W_verdictOf o_5) fun o_29 =>
  Option.bind (fn_P_addText o_21.1 o_21.2 o_29) fun o_32 =>
  Option.bind (fn_R_placeOf ct su x1) fun o_44 =>
  Option.bind (fn_P_addNumber o_32.1 o_32.2 o_44) fun o_47 =>
  Option.bind (fn_P_addText o_47.1 o_47.2 5) fun o_56 =>
  Option.bind (fn_R_nameOf ct nm x1) fun o_68 =>
  Option.bind (fn_P_addWritten o_56.1 o_56.2 o_68) fun o_71 =>
  Option.bind (fn_W_directiveOf o_5) fun o_79 =>
  Option.bind (fn_P_addText o_71.1 o_71.2 o_79) fun o_82 =>
  Option.bind (fn_P_add o_82.1 o_82.2 10) fun o_91 =>
  some (o_91.2.1, o_91.2.2)
def fb_E_takeRowLine_66 (le : Int32) (ch : Nat → Int32)  (sg : Int32) (sp : Int32) (ct : Int32) (lo : Int32) (oc : Int32) (kd : Nat → Int32) (dp : Nat → Int32) (su : Nat → Int32) (nm : Nat → Int64) (y1 : Int32) : Option (Int32 × Int32 × Int32 × Int32 × Int32 × Int32 × (Nat → Int32) × (Nat → Int32) × (Nat → Int32) × (Nat → Int64)) :=
  Option.bind (fn_R_innermost lo) fun o_81 =>
  Option.bind (fn_R_rowSize ct su o_81) fun o_84 =>
  Option.bind (fn_C_skipNumber le ch sp o_84) fun o_87 =>
  jv_gd (jv_zb o_87.1) <|
  some (o_87.1, y1, o_87.2, ct, lo, oc, kd, dp, su, nm)
def fb_E_takeRowLine_31 (le : Int32) (ch : Nat → Int32)  (sg : Int32) (sp : Int32) (ct : Int32) (lo : Int32) (oc : Int32) (kd : Nat → Int32) (dp : Nat → Int32) (su : Nat → Int32) (nm : Nat → Int64) (x1 : Int32) : Option (Int32 × Int32 × Int32 × Int32 × Int32 × Int32 × (Nat → Int32) × (Nat → Int32) × (Nat → Int32) × (Nat → Int64)) :=
  Option.bind (fn_C_skipIndent le ch sp x1) fun o_36 =>
  if o_36.1 = 0 then
    some (0, sg, o_36.2, ct, lo, oc, kd, dp, su, nm)
  else
    Option.bind (fn_C_skipText le ch o_36.2 8) fun o_50 =>
    if o_50.1 = 0 then
      Option.bind (fn_C_skipText le ch o_50.2 2) fun o_97 =>
      if o_97.1 = 0 then
        Option.bind (fn_C_skipText le ch o_97.2 3) fun o_134 =>
        if o_134.1 = 0 then
          Option.bind (fn_C_skipText le ch o_134.2 4) fun o_155 =>
          if o_155.1 = 0 then
            some (0, sg, o_155.2, ct, lo, oc, kd, dp, su, nm)
          else
            Option.bind (fn_E_takeTest le ch o_155.2 ct lo oc kd dp su nm 1 7 3) fun o_166 =>
            if o_166.1 = 0 then
              some (0, sg, o_166.2.1, o_166.2.2.1, o_166.2.2.2.1, o_166.2.2.2.2.1, o_166.2.2.2.2.2.1, o_166.2.2.2.2.2.2.1, o_166.2.2.2.2.2.2.2.1, o_166.2.2.2.2.2.2.2.2)
            else
              some (1, sg, o_166.2.1, o_166.2.2.1, o_166.2.2.2.1, o_166.2.2.2.2.1, o_166.2.2.2.2.2.1, o_166.2.2.2.2.2.2.1, o_166.2.2.2.2.2.2.2.1, o_166.2.2.2.2.2.2.2.2)
        else
          Option.bind (fn_E_takeTest le ch o_134.2 ct lo oc kd dp su nm 0 6 2) fun o_145 =>
          jv_gd (jv_zb o_145.1) <|
          some (o_145.1, sg, o_145.2.1, o_145.2.2.1, o_145.2.2.2.1, o_145.2.2.2.2.1, o_145.2.2.2.2.2.1, o_145.2.2.2.2.2.2.1, o_145.2.2.2.2.2.2.2.1, o_145.2.2.2.2.2.2.2.2)
      else
        Option.bind (fn_C_takeName le ch o_97.2) fun o_113 =>
        Option.bind (fn_R_addNode ct lo oc kd dp su nm 6 o_113.1) fun o_116 =>
        if o_116.1 < 0 then
          some (0, sg, o_113.2, o_116.2.1, o_116.2.2.1, o_116.2.2.2.1, o_116.2.2.2.2.1, o_116.2.2.2.2.2.1, o_116.2.2.2.2.2.2.1, o_116.2.2.2.2.2.2.2)
        else
          some (1, sg, o_113.2, o_116.2.1, o_116.2.2.1, o_116.2.2.2.1, o_116.2.2.2.2.1, o_116.2.2.2.2.2.1, o_116.2.2.2.2.2.2.1, o_116.2.2.2.2.2.2.2)
    else
      if x1 ≤ 0 then
        fb_E_takeRowLine_66 le ch sg o_50.2 ct lo oc kd dp su nm 3
      else
        fb_E_takeRowLine_66 le ch sg o_50.2 ct lo oc kd dp su nm 2
def fn_E_takeRowLine (le : Int32) (ch : Nat → Int32) (sg : Int32) (sp : Int32) (ct : Int32) (lo : Int32) (oc : Int32) (kd : Nat → Int32) (dp : Nat → Int32) (su : Nat → Int32) (nm : Nat → Int64)  : Option (Int32 × Int32 × Int32 × Int32 × Int32 × Int32 × (Nat → Int32) × (Nat → Int32) × (Nat → Int32) × (Nat → Int64)) :=
  Option.bind (fn_R_openSuites oc) fun o_4 =>
  if o_4 ≤ 0 then
    fb_E_takeRowLine_31 le ch sg sp ct lo oc kd dp su nm o_4
  else
    Option.bind (fn_C_skipText le ch sp 9) fun o_18 =>
    if o_18.1 = 0 then
      fb_E_takeRowLine_31 le ch sg o_18.2 ct lo oc kd dp su nm o_4
    else
      some (1, 3, o_18.2, ct, lo, oc, kd, dp, su, nm)
def fb_W_endSuites_5 (ct : Int32) (kd : Nat → Int32) (dp : Nat → Int32) (su : Nat → Int32) (nm : Nat → Int64)  (k5 : Int32 × (Nat → Int32) × Int32 × Int32 × Int32 → Option (Int32 × (Nat → Int32))) (sz : Int32) (ch : Nat → Int32) (x2 : Int32) (x3 : Int32) (x4 : Int32) : Option (Int32 × (Nat → Int32)) :=
  if 3 ≤ x4 then
    some (sz, ch)
  else
    if x3 = x2 then
      some (sz, ch)
    else
      Option.bind (fn_W_writePlan ct dp su sz ch x3) fun o_18 =>
      Option.bind (fn_W_writeVerdict ct kd dp su nm o_18.1 o_18.2 x3) fun o_23 =>
      Option.bind (fn_R_suiteOf ct su x3) fun o_31 =>
      k5 (o_23.1, o_23.2, x2, o_31, x4 + 1)
def fl_W_endSuites_5 (ct : Int32) (kd : Nat → Int32) (dp : Nat → Int32) (su : Nat → Int32) (nm : Nat → Int64)  : Nat → Int32 × (Nat → Int32) × Int32 × Int32 × Int32 → Option (Int32 × (Nat → Int32)) := jv_lp (fun k z => fb_W_endSuites_5 ct kd dp su nm  k z.1 z.2.1 z.2.2.1 z.2.2.2.1 z.2.2.2.2)
def fn_W_endSuites (ct : Int32) (kd : Nat → Int32) (dp : Nat → Int32) (su : Nat → Int32) (nm : Nat → Int64) (sz : Int32) (ch : Nat → Int32) (x1 : Int32) (x2 : Int32) : Option (Int32 × (Nat → Int32)) :=
  fl_W_endSuites_5 ct kd dp su nm 4000 (sz, ch, x2, x1, 0)
def fn_W_writeEnd (ct : Int32) (oc : Int32) (dp : Nat → Int32) (su : Nat → Int32) (sz : Int32) (ch : Nat → Int32)  : Option (Int32 × (Nat → Int32)) :=
  Option.bind (fn_R_openSuites oc) fun o_4 =>
  if o_4 = 0 then
    Option.bind (fn_W_writePlan ct dp su sz ch (-1)) fun o_12 =>
    some (o_12.1, o_12.2)
  else
    Option.bind (fn_P_addText sz ch 9) fun o_24 =>
    Option.bind (fn_P_add o_24.1 o_24.2 10) fun o_33 =>
    some (o_33.2.1, o_33.2.2)
def fn_E_takeLine (le : Int32) (ch : Nat → Int32) (sg : Int32) (sp : Int32) (ct : Int32) (lo : Int32) (oc : Int32) (kd : Nat → Int32) (dp : Nat → Int32) (su : Nat → Int32) (nm : Nat → Int64)  : Option (Int32 × Int32 × Int32 × Int32 × Int32 × Int32 × (Nat → Int32) × (Nat → Int32) × (Nat → Int32) × (Nat → Int64)) :=
  if sg = 0 then
    Option.bind (fn_C_skipText le ch sp 0) fun o_43 =>
    jv_gd (jv_zb o_43.1) <|
    some (o_43.1, 1, o_43.2, ct, lo, oc, kd, dp, su, nm)
  else
  if sg = 1 then
    Option.bind (fn_E_takeRowLine le ch sg sp ct lo oc kd dp su nm) fun o_48 =>
    jv_gd (jv_zb o_48.1) <|
    some (o_48.1, o_48.2.1, o_48.2.2.1, o_48.2.2.2.1, o_48.2.2.2.2.1, o_48.2.2.2.2.2.1, o_48.2.2.2.2.2.2.1, o_48.2.2.2.2.2.2.2.1, o_48.2.2.2.2.2.2.2.2.1, o_48.2.2.2.2.2.2.2.2.2)
  else
  if sg = 2 then
    Option.bind (fn_E_takeSuiteEnd le ch ct dp su nm sp lo oc kd) fun o_58 =>
    jv_gd (jv_zb o_58.1) <|
    some (o_58.1, 1, o_58.2.1, ct, o_58.2.2.1, o_58.2.2.2.1, o_58.2.2.2.2, dp, su, nm)
  else
    some (0, sg, sp, ct, lo, oc, kd, dp, su, nm)
def fb_W_writeAll_32 (ct : Int32) (lo : Int32) (oc : Int32) (kd : Nat → Int32) (dp : Nat → Int32) (su : Nat → Int32) (nm : Nat → Int64)  (k32 : Int32 × (Nat → Int32) × Int32 × Int32 → Option (Int32 × (Nat → Int32))) (sz : Int32) (ch : Nat → Int32) (x1 : Int32) (x2 : Int32) : Option (Int32 × (Nat → Int32)) :=
  Option.bind (fn_R_size ct) fun o_37 =>
  if o_37 ≤ x2 then
    Option.bind (fn_R_innermost lo) fun o_103 =>
    Option.bind (fn_W_endSuites ct kd dp su nm sz ch x1 o_103) fun o_106 =>
    Option.bind (fn_W_writeEnd ct oc dp su o_106.1 o_106.2) fun o_110 =>
    some (o_110.1, o_110.2)
  else
    Option.bind (fn_R_suiteOf ct su x2) fun o_50 =>
    Option.bind (fn_W_endSuites ct kd dp su nm sz ch x1 o_50) fun o_53 =>
    Option.bind (fn_R_isTest ct kd x2) fun o_61 =>
    if o_61 = 0 then
      Option.bind (fn_W_writeSubtest ct dp nm o_53.1 o_53.2 x2) fun o_86 =>
      k32 (o_86.1, o_86.2, x2, x2 + 1)
    else
      Option.bind (fn_W_writeVerdict ct kd dp su nm o_53.1 o_53.2 x2) fun o_69 =>
      Option.bind (fn_R_suiteOf ct su x2) fun o_77 =>
      k32 (o_69.1, o_69.2, o_77, x2 + 1)
def fl_W_writeAll_32 (ct : Int32) (lo : Int32) (oc : Int32) (kd : Nat → Int32) (dp : Nat → Int32) (su : Nat → Int32) (nm : Nat → Int64)  : Nat → Int32 × (Nat → Int32) × Int32 × Int32 → Option (Int32 × (Nat → Int32)) := jv_lp (fun k z => fb_W_writeAll_32 ct lo oc kd dp su nm  k z.1 z.2.1 z.2.2.1 z.2.2.2)
def fn_W_writeAll (ct : Int32) (lo : Int32) (oc : Int32) (kd : Nat → Int32) (dp : Nat → Int32) (su : Nat → Int32) (nm : Nat → Int64) (sz : Int32) (ch : Nat → Int32)  : Option (Int32 × (Nat → Int32)) :=
  Option.bind (fn_P_shorten sz 0) fun o_5 =>
  Option.bind (fn_P_addText o_5.2 ch 0) fun o_15 =>
  Option.bind (fn_P_add o_15.1 o_15.2 10) fun o_24 =>
  fl_W_writeAll_32 ct lo oc kd dp su nm 4000 (o_24.2.1, o_24.2.2, (-1), 0)
def fn_V_write (ct : Int32) (lo : Int32) (oc : Int32) (kd : Nat → Int32) (dp : Nat → Int32) (su : Nat → Int32) (nm : Nat → Int64) (sz : Int32) (ch : Nat → Int32)  : Option (Int32 × Int32 × (Nat → Int32)) :=
  Option.bind (fn_W_init ) fun o_12 =>
  Option.bind (fn_W_writeAll ct lo oc kd dp su nm sz ch) fun o_15 =>
  Option.bind (fn_P_size o_15.1) fun o_22 =>
  some (o_22, o_15.1, o_15.2)
def fb_E_readAll_62 (cz : Int32) (ch : Nat → Int32)  (sg : Int32) (sp : Int32) (le : Int32) (ct : Int32) (lo : Int32) (oc : Int32) (kd : Nat → Int32) (dp : Nat → Int32) (su : Nat → Int32) (nm : Nat → Int64) (x1 : Int32) : Option (Int32 × Int32 × Int32 × Int32 × Int32 × Int32 × Int32 × (Nat → Int32) × (Nat → Int32) × (Nat → Int32) × (Nat → Int64)) :=
  if sg = 3 then
    some (0, sg, sp, le, ct, lo, oc, kd, dp, su, nm)
  else
    some (-x1, sg, sp, le, ct, lo, oc, kd, dp, su, nm)
def fb_E_readAll_9 (cz : Int32) (ch : Nat → Int32)  (k9 : Int32 × Int32 × Int32 × Int32 × Int32 × Int32 × (Nat → Int32) × (Nat → Int32) × (Nat → Int32) × (Nat → Int64) × Int32 → Option (Int32 × Int32 × Int32 × Int32 × Int32 × Int32 × Int32 × (Nat → Int32) × (Nat → Int32) × (Nat → Int32) × (Nat → Int64))) (sg : Int32) (sp : Int32) (le : Int32) (ct : Int32) (lo : Int32) (oc : Int32) (kd : Nat → Int32) (dp : Nat → Int32) (su : Nat → Int32) (nm : Nat → Int64) (x1 : Int32) : Option (Int32 × Int32 × Int32 × Int32 × Int32 × Int32 × Int32 × (Nat → Int32) × (Nat → Int32) × (Nat → Int32) × (Nat → Int64)) :=
  if 3000 < x1 then
    fb_E_readAll_62 cz ch sg sp le ct lo oc kd dp su nm x1
  else
    Option.bind (fn_C_isBehindLastLine cz le) fun o_20 =>
    if o_20 = 0 then
      Option.bind (fn_C_goToNextLine cz ch sp le) fun o_30 =>
      if o_30.1 = 0 then
        some (-x1, sg, o_30.2.1, o_30.2.2, ct, lo, oc, kd, dp, su, nm)
      else
        Option.bind (fn_E_takeLine o_30.2.2 ch sg o_30.2.1 ct lo oc kd dp su nm) fun o_37 =>
        if o_37.1 = 0 then
          some (-x1, o_37.2.1, o_37.2.2.1, o_30.2.2, o_37.2.2.2.1, o_37.2.2.2.2.1, o_37.2.2.2.2.2.1, o_37.2.2.2.2.2.2.1, o_37.2.2.2.2.2.2.2.1, o_37.2.2.2.2.2.2.2.2.1, o_37.2.2.2.2.2.2.2.2.2)
        else
          Option.bind (fn_C_isAtLineEnd o_37.2.2.1 o_30.2.2) fun o_47 =>
          if o_47 = 0 then
            some (-x1, o_37.2.1, o_37.2.2.1, o_30.2.2, o_37.2.2.2.1, o_37.2.2.2.2.1, o_37.2.2.2.2.2.1, o_37.2.2.2.2.2.2.1, o_37.2.2.2.2.2.2.2.1, o_37.2.2.2.2.2.2.2.2.1, o_37.2.2.2.2.2.2.2.2.2)
          else
            k9 (o_37.2.1, o_37.2.2.1, o_30.2.2, o_37.2.2.2.1, o_37.2.2.2.2.1, o_37.2.2.2.2.2.1, o_37.2.2.2.2.2.2.1, o_37.2.2.2.2.2.2.2.1, o_37.2.2.2.2.2.2.2.2.1, o_37.2.2.2.2.2.2.2.2.2, x1 + 1)
    else
      fb_E_readAll_62 cz ch sg sp le ct lo oc kd dp su nm x1
def fl_E_readAll_9 (cz : Int32) (ch : Nat → Int32)  : Nat → Int32 × Int32 × Int32 × Int32 × Int32 × Int32 × (Nat → Int32) × (Nat → Int32) × (Nat → Int32) × (Nat → Int64) × Int32 → Option (Int32 × Int32 × Int32 × Int32 × Int32 × Int32 × Int32 × (Nat → Int32) × (Nat → Int32) × (Nat → Int32) × (Nat → Int64)) := jv_lp (fun k z => fb_E_readAll_9 cz ch  k z.1 z.2.1 z.2.2.1 z.2.2.2.1 z.2.2.2.2.1 z.2.2.2.2.2.1 z.2.2.2.2.2.2.1 z.2.2.2.2.2.2.2.1 z.2.2.2.2.2.2.2.2.1 z.2.2.2.2.2.2.2.2.2.1 z.2.2.2.2.2.2.2.2.2.2)
def fn_E_readAll (cz : Int32) (ch : Nat → Int32) (sg : Int32) (sp : Int32) (le : Int32) (ct : Int32) (lo : Int32) (oc : Int32) (kd : Nat → Int32) (dp : Nat → Int32) (su : Nat → Int32) (nm : Nat → Int64)  : Option (Int32 × Int32 × Int32 × Int32 × Int32 × Int32 × Int32 × (Nat → Int32) × (Nat → Int32) × (Nat → Int32) × (Nat → Int64)) :=
  Option.bind (fn_R_removeAll ct lo oc) fun o_4 =>
  fl_E_readAll_9 cz ch 4000 (sg, sp, le, o_4.1, o_4.2.1, o_4.2.2, kd, dp, su, nm, 1)
def fn_V_read (sz : Int32) (ch : Nat → Int32) (ct : Int32) (lo : Int32) (oc : Int32) (kd : Nat → Int32) (dp : Nat → Int32) (su : Nat → Int32) (nm : Nat → Int64) (ct2 : Int32) (lo2 : Int32) (oc2 : Int32) (kd2 : Nat → Int32) (dp2 : Nat → Int32) (su2 : Nat → Int32) (nm2 : Nat → Int64)  : Option (Int32 × Int32 × Int32 × Int32 × (Nat → Int32) × (Nat → Int32) × (Nat → Int32) × (Nat → Int64) × Int32 × Int32 × Int32 × (Nat → Int32) × (Nat → Int32) × (Nat → Int32) × (Nat → Int64)) :=
  Option.bind (fn_P_cursor sz) fun o_8 =>
  Option.bind (fn_E_init ) fun o_15 =>
  Option.bind (fn_E_readAll o_8.1 ch o_15 o_8.2.1 o_8.2.2 ct2 lo2 oc2 kd2 dp2 su2 nm2) fun o_18 =>
  if o_18.1 = 0 then
    some (o_18.1, o_18.2.2.2.2.1, o_18.2.2.2.2.2.1, o_18.2.2.2.2.2.2.1, o_18.2.2.2.2.2.2.2.1, o_18.2.2.2.2.2.2.2.2.1, o_18.2.2.2.2.2.2.2.2.2.1, o_18.2.2.2.2.2.2.2.2.2.2, ct, lo, oc, kd, dp, su, nm)
  else
    some (o_18.1, ct, lo, oc, kd, dp, su, nm, o_18.2.2.2.2.1, o_18.2.2.2.2.2.1, o_18.2.2.2.2.2.2.1, o_18.2.2.2.2.2.2.2.1, o_18.2.2.2.2.2.2.2.2.1, o_18.2.2.2.2.2.2.2.2.2.1, o_18.2.2.2.2.2.2.2.2.2.2)
end
section
-- ===== PART A: goes FIRST, ahead of the names: the tables' words, and 'selects' of the private methods out of them =====
/-- a private method of a class that the tables say can be made, by its rows of tables_1 -/
def lw_okq (q : MethodName × Nat) : Prop := (q.1.cls ≠ "java/lang/invoke/MethodHandle" ∧ q.1.cls ≠ "java/lang/invoke/VarHandle") ∧ Cond.instantiable q.1.cls q.2 ∈ tables_1 ∧ Cond.privateMethod q.1 ∈ tables_1 ∧ Cond.instanceMethod q.1 ∈ tables_1
theorem lw_p0 : lw_okq (⟨"VerdictPages", "addWithBegunName", "(I)I"⟩, 4) := ⟨⟨by decide +kernel, by decide +kernel⟩, List.mem_of_getElem? (i := 14) (by decide +kernel), List.mem_of_getElem? (i := 99) (by decide +kernel), List.mem_of_getElem? (i := 100) (by decide +kernel)⟩
theorem lw_p1 : lw_okq (⟨"VerdictPages$Report", "hasFailedBehind", "(I)Z"⟩, 7) := ⟨⟨by decide +kernel, by decide +kernel⟩, List.mem_of_getElem? (i := 36) (by decide +kernel), List.mem_of_getElem? (i := 119) (by decide +kernel), List.mem_of_getElem? (i := 120) (by decide +kernel)⟩
theorem lw_p2 : lw_okq (⟨"VerdictPages$PageWriter", "endSuites", "(II)V"⟩, 2) := ⟨⟨by decide +kernel, by decide +kernel⟩, List.mem_of_getElem? (i := 173) (by decide +kernel), List.mem_of_getElem? (i := 257) (by decide +kernel), List.mem_of_getElem? (i := 258) (by decide +kernel)⟩
theorem lw_p3 : lw_okq (⟨"VerdictPages$PageWriter", "writePlan", "(I)V"⟩, 2) := ⟨⟨by decide +kernel, by decide +kernel⟩, List.mem_of_getElem? (i := 173) (by decide +kernel), List.mem_of_getElem? (i := 261) (by decide +kernel), List.mem_of_getElem? (i := 262) (by decide +kernel)⟩
theorem lw_p4 : lw_okq (⟨"VerdictPages$Report", "countInRow", "(II)I"⟩, 7) := ⟨⟨by decide +kernel, by decide +kernel⟩, List.mem_of_getElem? (i := 36) (by decide +kernel), List.mem_of_getElem? (i := 280) (by decide +kernel), List.mem_of_getElem? (i := 281) (by decide +kernel)⟩
theorem lw_p5 : lw_okq (⟨"VerdictPages$PageWriter", "writeVerdict", "(I)V"⟩, 2) := ⟨⟨by decide +kernel, by decide +kernel⟩, List.mem_of_getElem? (i := 173) (by decide +kernel), List.mem_of_getElem? (i := 288) (by decide +kernel), List.mem_of_getElem? (i := 289) (by decide +kernel)⟩
theorem lw_p6 : lw_okq (⟨"VerdictPages$PageWriter", "writeSubtest", "(I)V"⟩, 2) := ⟨⟨by decide +kernel, by decide +kernel⟩, List.mem_of_getElem? (i := 173) (by decide +kernel), List.mem_of_getElem? (i := 321) (by decide +kernel), List.mem_of_getElem? (i := 322) (by decide +kernel)⟩
theorem lw_p7 : lw_okq (⟨"VerdictPages$PageWriter", "writeEnd", "()V"⟩, 2) := ⟨⟨by decide +kernel, by decide +kernel⟩, List.mem_of_getElem? (i := 173) (by decide +kernel), List.mem_of_getElem? (i := 330) (by decide +kernel), List.mem_of_getElem? (i := 331) (by decide +kernel)⟩
theorem lw_p8 : lw_okq (⟨"VerdictPages$PageReader", "takeLine", "()Z"⟩, 3) := ⟨⟨by decide +kernel, by decide +kernel⟩, List.mem_of_getElem? (i := 348) (by decide +kernel), List.mem_of_getElem? (i := 400) (by decide +kernel), List.mem_of_getElem? (i := 401) (by decide +kernel)⟩
theorem lw_p9 : lw_okq (⟨"VerdictPages$PageReader", "takeRowLine", "()Z"⟩, 3) := ⟨⟨by decide +kernel, by decide +kernel⟩, List.mem_of_getElem? (i := 348) (by decide +kernel), List.mem_of_getElem? (i := 411) (by decide +kernel), List.mem_of_getElem? (i := 412) (by decide +kernel)⟩
theorem lw_p10 : lw_okq (⟨"VerdictPages$LineCursor", "skipDigit", "(I)Z"⟩, 4) := ⟨⟨by decide +kernel, by decide +kernel⟩, List.mem_of_getElem? (i := 354) (by decide +kernel), List.mem_of_getElem? (i := 430) (by decide +kernel), List.mem_of_getElem? (i := 431) (by decide +kernel)⟩
theorem lw_p11 : lw_okq (⟨"VerdictPages$LineCursor", "takeLetter", "()I"⟩, 4) := ⟨⟨by decide +kernel, by decide +kernel⟩, List.mem_of_getElem? (i := 354) (by decide +kernel), List.mem_of_getElem? (i := 439) (by decide +kernel), List.mem_of_getElem? (i := 440) (by decide +kernel)⟩
theorem lw_p12 : lw_okq (⟨"VerdictPages$PageReader", "takeTest", "(ILjava/lang/String;I)Z"⟩, 3) := ⟨⟨by decide +kernel, by decide +kernel⟩, List.mem_of_getElem? (i := 348) (by decide +kernel), List.mem_of_getElem? (i := 447) (by decide +kernel), List.mem_of_getElem? (i := 448) (by decide +kernel)⟩
theorem lw_p13 : lw_okq (⟨"VerdictPages$PageReader", "takeSuiteEnd", "()Z"⟩, 3) := ⟨⟨by decide +kernel, by decide +kernel⟩, List.mem_of_getElem? (i := 348) (by decide +kernel), List.mem_of_getElem? (i := 454) (by decide +kernel), List.mem_of_getElem? (i := 455) (by decide +kernel)⟩
theorem lw_p14 : lw_okq (⟨"VerdictPagesModel", "innermost", "(I)I"⟩, 17) := ⟨⟨by decide +kernel, by decide +kernel⟩, List.mem_of_getElem? (i := 516) (by decide +kernel), List.mem_of_getElem? (i := 583) (by decide +kernel), List.mem_of_getElem? (i := 584) (by decide +kernel)⟩
theorem lw_p15 : lw_okq (⟨"VerdictPagesModel", "depthOf", "(II)I"⟩, 17) := ⟨⟨by decide +kernel, by decide +kernel⟩, List.mem_of_getElem? (i := 516) (by decide +kernel), List.mem_of_getElem? (i := 587) (by decide +kernel), List.mem_of_getElem? (i := 588) (by decide +kernel)⟩
def lw_privs_1 : List (MethodName × Nat) := [(⟨"VerdictPages", "addWithBegunName", "(I)I"⟩, 4), (⟨"VerdictPages$Report", "hasFailedBehind", "(I)Z"⟩, 7), (⟨"VerdictPages$PageWriter", "endSuites", "(II)V"⟩, 2), (⟨"VerdictPages$PageWriter", "writePlan", "(I)V"⟩, 2), (⟨"VerdictPages$Report", "countInRow", "(II)I"⟩, 7), (⟨"VerdictPages$PageWriter", "writeVerdict", "(I)V"⟩, 2), (⟨"VerdictPages$PageWriter", "writeSubtest", "(I)V"⟩, 2), (⟨"VerdictPages$PageWriter", "writeEnd", "()V"⟩, 2), (⟨"VerdictPages$PageReader", "takeLine", "()Z"⟩, 3), (⟨"VerdictPages$PageReader", "takeRowLine", "()Z"⟩, 3), (⟨"VerdictPages$LineCursor", "skipDigit", "(I)Z"⟩, 4), (⟨"VerdictPages$LineCursor", "takeLetter", "()I"⟩, 4), (⟨"VerdictPages$PageReader", "takeTest", "(ILjava/lang/String;I)Z"⟩, 3), (⟨"VerdictPages$PageReader", "takeSuiteEnd", "()Z"⟩, 3), (⟨"VerdictPagesModel", "innermost", "(I)I"⟩, 17), (⟨"VerdictPagesModel", "depthOf", "(II)I"⟩, 17)]
theorem lw_r1 : ∀ q ∈ lw_privs_1, lw_okq q := List.forall_mem_cons.mpr ⟨lw_p0, List.forall_mem_cons.mpr ⟨lw_p1, List.forall_mem_cons.mpr ⟨lw_p2, List.forall_mem_cons.mpr ⟨lw_p3, List.forall_mem_cons.mpr ⟨lw_p4, List.forall_mem_cons.mpr ⟨lw_p5, List.forall_mem_cons.mpr ⟨lw_p6, List.forall_mem_cons.mpr ⟨lw_p7, List.forall_mem_cons.mpr ⟨lw_p8, List.forall_mem_cons.mpr ⟨lw_p9, List.forall_mem_cons.mpr ⟨lw_p10, List.forall_mem_cons.mpr ⟨lw_p11, List.forall_mem_cons.mpr ⟨lw_p12, List.forall_mem_cons.mpr ⟨lw_p13, List.forall_mem_cons.mpr ⟨lw_p14, List.forall_mem_cons.mpr ⟨lw_p15, fun _ h => absurd h List.not_mem_nil⟩⟩⟩⟩⟩⟩⟩⟩⟩⟩⟩⟩⟩⟩⟩⟩
theorem lw_p16 : lw_okq (⟨"VerdictPagesModel", "addNamed", "(I)I"⟩, 17) := ⟨⟨by decide +kernel, by decide +kernel⟩, List.mem_of_getElem? (i := 516) (by decide +kernel), List.mem_of_getElem? (i := 591) (by decide +kernel), List.mem_of_getElem? (i := 592) (by decide +kernel)⟩
theorem lw_p17 : lw_okq (⟨"VerdictPagesModel", "grow", "(II)I"⟩, 17) := ⟨⟨by decide +kernel, by decide +kernel⟩, List.mem_of_getElem? (i := 516) (by decide +kernel), List.mem_of_getElem? (i := 595) (by decide +kernel), List.mem_of_getElem? (i := 596) (by decide +kernel)⟩
theorem lw_p18 : lw_okq (⟨"VerdictPagesModel", "node", "(I)Z"⟩, 17) := ⟨⟨by decide +kernel, by decide +kernel⟩, List.mem_of_getElem? (i := 516) (by decide +kernel), List.mem_of_getElem? (i := 619) (by decide +kernel), List.mem_of_getElem? (i := 620) (by decide +kernel)⟩
theorem lw_p19 : lw_okq (⟨"VerdictPagesModel", "good", "(II)Z"⟩, 17) := ⟨⟨by decide +kernel, by decide +kernel⟩, List.mem_of_getElem? (i := 516) (by decide +kernel), List.mem_of_getElem? (i := 623) (by decide +kernel), List.mem_of_getElem? (i := 624) (by decide +kernel)⟩
theorem lw_p20 : lw_okq (⟨"VerdictPagesModel", "addText", "(I)V"⟩, 17) := ⟨⟨by decide +kernel, by decide +kernel⟩, List.mem_of_getElem? (i := 516) (by decide +kernel), List.mem_of_getElem? (i := 639) (by decide +kernel), List.mem_of_getElem? (i := 640) (by decide +kernel)⟩
theorem lw_p21 : lw_okq (⟨"VerdictPagesModel", "add", "(C)V"⟩, 17) := ⟨⟨by decide +kernel, by decide +kernel⟩, List.mem_of_getElem? (i := 516) (by decide +kernel), List.mem_of_getElem? (i := 662) (by decide +kernel), List.mem_of_getElem? (i := 663) (by decide +kernel)⟩
theorem lw_p22 : lw_okq (⟨"VerdictPagesModel", "finish", "(I)V"⟩, 17) := ⟨⟨by decide +kernel, by decide +kernel⟩, List.mem_of_getElem? (i := 516) (by decide +kernel), List.mem_of_getElem? (i := 666) (by decide +kernel), List.mem_of_getElem? (i := 667) (by decide +kernel)⟩
theorem lw_p23 : lw_okq (⟨"VerdictPagesModel", "addSpaces", "(I)V"⟩, 17) := ⟨⟨by decide +kernel, by decide +kernel⟩, List.mem_of_getElem? (i := 516) (by decide +kernel), List.mem_of_getElem? (i := 670) (by decide +kernel), List.mem_of_getElem? (i := 671) (by decide +kernel)⟩
theorem lw_p24 : lw_okq (⟨"VerdictPagesModel", "rowSize", "(II)I"⟩, 17) := ⟨⟨by decide +kernel, by decide +kernel⟩, List.mem_of_getElem? (i := 516) (by decide +kernel), List.mem_of_getElem? (i := 674) (by decide +kernel), List.mem_of_getElem? (i := 675) (by decide +kernel)⟩
theorem lw_p25 : lw_okq (⟨"VerdictPagesModel", "addNumber", "(I)V"⟩, 17) := ⟨⟨by decide +kernel, by decide +kernel⟩, List.mem_of_getElem? (i := 516) (by decide +kernel), List.mem_of_getElem? (i := 678) (by decide +kernel), List.mem_of_getElem? (i := 679) (by decide +kernel)⟩
theorem lw_p26 : lw_okq (⟨"VerdictPagesModel", "addVerdict", "(IZ)V"⟩, 17) := ⟨⟨by decide +kernel, by decide +kernel⟩, List.mem_of_getElem? (i := 516) (by decide +kernel), List.mem_of_getElem? (i := 682) (by decide +kernel), List.mem_of_getElem? (i := 683) (by decide +kernel)⟩
theorem lw_p27 : lw_okq (⟨"VerdictPagesModel", "placeOf", "(II)I"⟩, 17) := ⟨⟨by decide +kernel, by decide +kernel⟩, List.mem_of_getElem? (i := 516) (by decide +kernel), List.mem_of_getElem? (i := 686) (by decide +kernel), List.mem_of_getElem? (i := 687) (by decide +kernel)⟩
theorem lw_p28 : lw_okq (⟨"VerdictPagesModel", "addName", "(I)V"⟩, 17) := ⟨⟨by decide +kernel, by decide +kernel⟩, List.mem_of_getElem? (i := 516) (by decide +kernel), List.mem_of_getElem? (i := 690) (by decide +kernel), List.mem_of_getElem? (i := 691) (by decide +kernel)⟩
theorem lw_p29 : lw_okq (⟨"VerdictPagesModel", "eat", "(I)Z"⟩, 17) := ⟨⟨by decide +kernel, by decide +kernel⟩, List.mem_of_getElem? (i := 516) (by decide +kernel), List.mem_of_getElem? (i := 698) (by decide +kernel), List.mem_of_getElem? (i := 699) (by decide +kernel)⟩
theorem lw_p30 : lw_okq (⟨"VerdictPagesModel", "line", "(I)Z"⟩, 17) := ⟨⟨by decide +kernel, by decide +kernel⟩, List.mem_of_getElem? (i := 516) (by decide +kernel), List.mem_of_getElem? (i := 702) (by decide +kernel), List.mem_of_getElem? (i := 703) (by decide +kernel)⟩
theorem lw_p31 : lw_okq (⟨"VerdictPagesModel", "closing", "()Z"⟩, 17) := ⟨⟨by decide +kernel, by decide +kernel⟩, List.mem_of_getElem? (i := 516) (by decide +kernel), List.mem_of_getElem? (i := 706) (by decide +kernel), List.mem_of_getElem? (i := 707) (by decide +kernel)⟩
def lw_privs_2 : List (MethodName × Nat) := [(⟨"VerdictPagesModel", "addNamed", "(I)I"⟩, 17), (⟨"VerdictPagesModel", "grow", "(II)I"⟩, 17), (⟨"VerdictPagesModel", "node", "(I)Z"⟩, 17), (⟨"VerdictPagesModel", "good", "(II)Z"⟩, 17), (⟨"VerdictPagesModel", "addText", "(I)V"⟩, 17), (⟨"VerdictPagesModel", "add", "(C)V"⟩, 17), (⟨"VerdictPagesModel", "finish", "(I)V"⟩, 17), (⟨"VerdictPagesModel", "addSpaces", "(I)V"⟩, 17), (⟨"VerdictPagesModel", "rowSize", "(II)I"⟩, 17), (⟨"VerdictPagesModel", "addNumber", "(I)V"⟩, 17), (⟨"VerdictPagesModel", "addVerdict", "(IZ)V"⟩, 17), (⟨"VerdictPagesModel", "placeOf", "(II)I"⟩, 17), (⟨"VerdictPagesModel", "addName", "(I)V"⟩, 17), (⟨"VerdictPagesModel", "eat", "(I)Z"⟩, 17), (⟨"VerdictPagesModel", "line", "(I)Z"⟩, 17), (⟨"VerdictPagesModel", "closing", "()Z"⟩, 17)]
theorem lw_r2 : ∀ q ∈ lw_privs_2, lw_okq q := List.forall_mem_cons.mpr ⟨lw_p16, List.forall_mem_cons.mpr ⟨lw_p17, List.forall_mem_cons.mpr ⟨lw_p18, List.forall_mem_cons.mpr ⟨lw_p19, List.forall_mem_cons.mpr ⟨lw_p20, List.forall_mem_cons.mpr ⟨lw_p21, List.forall_mem_cons.mpr ⟨lw_p22, List.forall_mem_cons.mpr ⟨lw_p23, List.forall_mem_cons.mpr ⟨lw_p24, List.forall_mem_cons.mpr ⟨lw_p25, List.forall_mem_cons.mpr ⟨lw_p26, List.forall_mem_cons.mpr ⟨lw_p27, List.forall_mem_cons.mpr ⟨lw_p28, List.forall_mem_cons.mpr ⟨lw_p29, List.forall_mem_cons.mpr ⟨lw_p30, List.forall_mem_cons.mpr ⟨lw_p31, fun _ h => absurd h List.not_mem_nil⟩⟩⟩⟩⟩⟩⟩⟩⟩⟩⟩⟩⟩⟩⟩⟩
theorem lw_p32 : lw_okq (⟨"VerdictPagesModel", "eatSpaces", "(I)Z"⟩, 17) := ⟨⟨by decide +kernel, by decide +kernel⟩, List.mem_of_getElem? (i := 516) (by decide +kernel), List.mem_of_getElem? (i := 710) (by decide +kernel), List.mem_of_getElem? (i := 711) (by decide +kernel)⟩
theorem lw_p33 : lw_okq (⟨"VerdictPagesModel", "eatNumber", "(I)Z"⟩, 17) := ⟨⟨by decide +kernel, by decide +kernel⟩, List.mem_of_getElem? (i := 516) (by decide +kernel), List.mem_of_getElem? (i := 714) (by decide +kernel), List.mem_of_getElem? (i := 715) (by decide +kernel)⟩
theorem lw_p34 : lw_okq (⟨"VerdictPagesModel", "eatDigit", "(I)Z"⟩, 17) := ⟨⟨by decide +kernel, by decide +kernel⟩, List.mem_of_getElem? (i := 516) (by decide +kernel), List.mem_of_getElem? (i := 718) (by decide +kernel), List.mem_of_getElem? (i := 719) (by decide +kernel)⟩
theorem lw_p35 : lw_okq (⟨"VerdictPagesModel", "eatName", "(I)Z"⟩, 17) := ⟨⟨by decide +kernel, by decide +kernel⟩, List.mem_of_getElem? (i := 516) (by decide +kernel), List.mem_of_getElem? (i := 722) (by decide +kernel), List.mem_of_getElem? (i := 723) (by decide +kernel)⟩
theorem lw_p36 : lw_okq (⟨"VerdictPagesModel", "isName", "(I)Z"⟩, 17) := ⟨⟨by decide +kernel, by decide +kernel⟩, List.mem_of_getElem? (i := 516) (by decide +kernel), List.mem_of_getElem? (i := 726) (by decide +kernel), List.mem_of_getElem? (i := 727) (by decide +kernel)⟩
theorem lw_p37 : lw_okq (⟨"VerdictPagesModel", "plan", "(II)Z"⟩, 17) := ⟨⟨by decide +kernel, by decide +kernel⟩, List.mem_of_getElem? (i := 516) (by decide +kernel), List.mem_of_getElem? (i := 730) (by decide +kernel), List.mem_of_getElem? (i := 731) (by decide +kernel)⟩
theorem lw_p38 : lw_okq (⟨"VerdictPagesModel", "bail", "(I)Z"⟩, 17) := ⟨⟨by decide +kernel, by decide +kernel⟩, List.mem_of_getElem? (i := 516) (by decide +kernel), List.mem_of_getElem? (i := 734) (by decide +kernel), List.mem_of_getElem? (i := 735) (by decide +kernel)⟩
theorem lw_p39 : lw_okq (⟨"VerdictPagesModel", "subtest", "(II)Z"⟩, 17) := ⟨⟨by decide +kernel, by decide +kernel⟩, List.mem_of_getElem? (i := 516) (by decide +kernel), List.mem_of_getElem? (i := 738) (by decide +kernel), List.mem_of_getElem? (i := 739) (by decide +kernel)⟩
theorem lw_p40 : lw_okq (⟨"VerdictPagesModel", "accept", "(I)Z"⟩, 17) := ⟨⟨by decide +kernel, by decide +kernel⟩, List.mem_of_getElem? (i := 516) (by decide +kernel), List.mem_of_getElem? (i := 742) (by decide +kernel), List.mem_of_getElem? (i := 743) (by decide +kernel)⟩
theorem lw_p41 : lw_okq (⟨"VerdictPagesModel", "testLine", "(II)Z"⟩, 17) := ⟨⟨by decide +kernel, by decide +kernel⟩, List.mem_of_getElem? (i := 516) (by decide +kernel), List.mem_of_getElem? (i := 746) (by decide +kernel), List.mem_of_getElem? (i := 747) (by decide +kernel)⟩
theorem lw_p42 : lw_okq (⟨"VerdictPagesModel", "endsWith", "(III)Z"⟩, 17) := ⟨⟨by decide +kernel, by decide +kernel⟩, List.mem_of_getElem? (i := 516) (by decide +kernel), List.mem_of_getElem? (i := 750) (by decide +kernel), List.mem_of_getElem? (i := 751) (by decide +kernel)⟩
theorem lw_p43 : lw_okq (⟨"VerdictPagesModel", "adopt", "()V"⟩, 17) := ⟨⟨by decide +kernel, by decide +kernel⟩, List.mem_of_getElem? (i := 516) (by decide +kernel), List.mem_of_getElem? (i := 754) (by decide +kernel), List.mem_of_getElem? (i := 755) (by decide +kernel)⟩
theorem lw_p44 : lw_okq (⟨"VerdictPagesModel", "alike", "(II)Z"⟩, 17) := ⟨⟨by decide +kernel, by decide +kernel⟩, List.mem_of_getElem? (i := 516) (by decide +kernel), List.mem_of_getElem? (i := 785) (by decide +kernel), List.mem_of_getElem? (i := 786) (by decide +kernel)⟩
theorem lw_p45 : lw_okq (⟨"VerdictPagesModel", "sameName", "(II)Z"⟩, 17) := ⟨⟨by decide +kernel, by decide +kernel⟩, List.mem_of_getElem? (i := 516) (by decide +kernel), List.mem_of_getElem? (i := 789) (by decide +kernel), List.mem_of_getElem? (i := 790) (by decide +kernel)⟩
def lw_privs_3 : List (MethodName × Nat) := [(⟨"VerdictPagesModel", "eatSpaces", "(I)Z"⟩, 17), (⟨"VerdictPagesModel", "eatNumber", "(I)Z"⟩, 17), (⟨"VerdictPagesModel", "eatDigit", "(I)Z"⟩, 17), (⟨"VerdictPagesModel", "eatName", "(I)Z"⟩, 17), (⟨"VerdictPagesModel", "isName", "(I)Z"⟩, 17), (⟨"VerdictPagesModel", "plan", "(II)Z"⟩, 17), (⟨"VerdictPagesModel", "bail", "(I)Z"⟩, 17), (⟨"VerdictPagesModel", "subtest", "(II)Z"⟩, 17), (⟨"VerdictPagesModel", "accept", "(I)Z"⟩, 17), (⟨"VerdictPagesModel", "testLine", "(II)Z"⟩, 17), (⟨"VerdictPagesModel", "endsWith", "(III)Z"⟩, 17), (⟨"VerdictPagesModel", "adopt", "()V"⟩, 17), (⟨"VerdictPagesModel", "alike", "(II)Z"⟩, 17), (⟨"VerdictPagesModel", "sameName", "(II)Z"⟩, 17)]
theorem lw_r3 : ∀ q ∈ lw_privs_3, lw_okq q := List.forall_mem_cons.mpr ⟨lw_p32, List.forall_mem_cons.mpr ⟨lw_p33, List.forall_mem_cons.mpr ⟨lw_p34, List.forall_mem_cons.mpr ⟨lw_p35, List.forall_mem_cons.mpr ⟨lw_p36, List.forall_mem_cons.mpr ⟨lw_p37, List.forall_mem_cons.mpr ⟨lw_p38, List.forall_mem_cons.mpr ⟨lw_p39, List.forall_mem_cons.mpr ⟨lw_p40, List.forall_mem_cons.mpr ⟨lw_p41, List.forall_mem_cons.mpr ⟨lw_p42, List.forall_mem_cons.mpr ⟨lw_p43, List.forall_mem_cons.mpr ⟨lw_p44, List.forall_mem_cons.mpr ⟨lw_p45, fun _ h => absurd h List.not_mem_nil⟩⟩⟩⟩⟩⟩⟩⟩⟩⟩⟩⟩⟩⟩
def lw_privs : List (MethodName × Nat) := lw_privs_1 ++ (lw_privs_2 ++ (lw_privs_3))
def lw_tbl : List Cond := k2_sels lw_privs ++ tables_1
theorem lw_privs_ok : ∀ q ∈ lw_privs, lw_okq q := by
  show ∀ q ∈ lw_privs_1 ++ (lw_privs_2 ++ (lw_privs_3)), lw_okq q
  exact List.forall_mem_append.mpr ⟨lw_r1, List.forall_mem_append.mpr ⟨lw_r2, lw_r3⟩⟩
end
section
/-! Names: classes, fields, methods; the words that all contracts rest on. -/
def TB_ : List Cond := lw_tbl.filter goodWord
theorem TB_g {w : Cond} (h : w ∈ TB_) : goodWord w = true := (List.mem_filter.mp h).2
theorem TB_p {w : Cond} (h : w ∈ lw_privs.map (fun q => Cond.selects q.1.cls q.1 q.1)) (g : goodWord w = true) : w ∈ TB_ := List.mem_filter.mpr ⟨List.mem_append_left _ h, g⟩
theorem TB_1 {w : Cond} (i : Nat) (hi : tables_1_1[i]? = some w) (g : goodWord w = true) : w ∈ TB_ := List.mem_filter.mpr ⟨List.mem_append_right _ (by have h : w ∈ tables_1_1 := List.mem_of_getElem? hi; exact List.mem_append_left _ h), g⟩
theorem TB_2 {w : Cond} (i : Nat) (hi : tables_1_2[i]? = some w) (g : goodWord w = true) : w ∈ TB_ := List.mem_filter.mpr ⟨List.mem_append_right _ (by have h : w ∈ tables_1_2 := List.mem_of_getElem? hi; exact List.mem_append_right _ (List.mem_append_left _ h)), g⟩
theorem TB_3 {w : Cond} (i : Nat) (hi : tables_1_3[i]? = some w) (g : goodWord w = true) : w ∈ TB_ := List.mem_filter.mpr ⟨List.mem_append_right _ (by have h : w ∈ tables_1_3 := List.mem_of_getElem? hi; exact List.mem_append_right _ (List.mem_append_right _ (List.mem_append_left _ h))), g⟩
theorem TB_4 {w : Cond} (i : Nat) (hi : tables_1_4[i]? = some w) (g : goodWord w = true) : w ∈ TB_ := List.mem_filter.mpr ⟨List.mem_append_right _ (by have h : w ∈ tables_1_4 := List.mem_of_getElem? hi; exact List.mem_append_right _ (List.mem_append_right _ (List.mem_append_right _ h))), g⟩
theorem goodIn_sub_ {ws : List Cond} (hm : ∀ w ∈ ws, w ∈ TB_) : GoodIn TB_ ws := fun w hw => ⟨hm w hw, good_of_word (TB_g (hm w hw))⟩
theorem gi_V {own C : String} {idx : Nat} {y : MethodName} {cw : Cond} (h1 : Cond.methodLink own idx y ∈ TB_) (h2 : Cond.instanceMethod y ∈ TB_) (h3 : Cond.selects C y y ∈ TB_) (h4 : Cond.initialized C ∈ TB_) (h5 : cw ∈ TB_) : GoodIn TB_ (wsV own idx C y (cw :: TB_)) := by
  refine goodIn_sub_ (fun w hw => ?_)
  rcases List.mem_append.mp hw with h | h
  · simp only [List.mem_cons, List.not_mem_nil, or_false] at h
    rcases h with rfl | rfl | rfl | rfl <;> assumption
  · rcases List.mem_cons.mp h with rfl | h <;> assumption
theorem gi_S {own : String} {idx : Nat} {y : MethodName} {cw : Cond} (h1 : Cond.methodLink own idx y ∈ TB_) (h2 : Cond.static y ∈ TB_) (h4 : Cond.initialized y.cls ∈ TB_) (h5 : cw ∈ TB_) : GoodIn TB_ (va_wsS own idx y (cw :: TB_)) := by
  refine goodIn_sub_ (fun w hw => ?_)
  rcases List.mem_append.mp hw with h | h
  · simp only [List.mem_cons, List.not_mem_nil, or_false] at h
    rcases h with rfl | rfl | rfl <;> assumption
  · rcases List.mem_cons.mp h with rfl | h <;> assumption
theorem gi_I {cw : Cond} (h5 : cw ∈ TB_) : GoodIn TB_ (cw :: TB_) := by
  refine goodIn_sub_ (fun w hw => ?_)
  rcases List.mem_cons.mp hw with rfl | h <;> assumption
def cn_V : String := "VerdictPages"
def cn_N : String := "VerdictPages$Names"
def cn_R : String := "VerdictPages$Report"
def cn_P : String := "VerdictPages$Page"
def cn_W : String := "VerdictPages$PageWriter"
def cn_C : String := "VerdictPages$LineCursor"
def cn_E : String := "VerdictPages$PageReader"
def cn_M : String := "VerdictPagesModel"
def cn_L : String := "VerdictPagesLaw"
abbrev cc_C_init : ByteArray := prog_2_method_1_code
def yy_C_init : MethodName := ⟨cn_C, "<init>", "([CI)V"⟩
def ws_C_init : List Cond := .code yy_C_init cc_C_init 3 none :: TB_
abbrev cc_C_isBehindLastLine : ByteArray := prog_2_method_2_code
def yy_C_isBehindLastLine : MethodName := ⟨cn_C, "isBehindLastLine", "()Z"⟩
def ws_C_isBehindLastLine : List Cond := .code yy_C_isBehindLastLine cc_C_isBehindLastLine 1 (some .boolean) :: TB_
abbrev cc_C_goToNextLine : ByteArray := prog_2_method_3_code
def yy_C_goToNextLine : MethodName := ⟨cn_C, "goToNextLine", "()Z"⟩
def ws_C_goToNextLine : List Cond := .code yy_C_goToNextLine cc_C_goToNextLine 2 (some .boolean) :: TB_
abbrev cc_C_isAtLineEnd : ByteArray := prog_2_method_4_code
def yy_C_isAtLineEnd : MethodName := ⟨cn_C, "isAtLineEnd", "()Z"⟩
def ws_C_isAtLineEnd : List Cond := .code yy_C_isAtLineEnd cc_C_isAtLineEnd 1 (some .boolean) :: TB_
abbrev cc_C_skipText : ByteArray := prog_2_method_5_code
def yy_C_skipText : MethodName := ⟨cn_C, "skipText", "(Ljava/lang/String;)Z"⟩
def ws_C_skipText : List Cond := .code yy_C_skipText cc_C_skipText 3 (some .boolean) :: TB_
abbrev cc_C_skipIndent : ByteArray := prog_2_method_6_code
def yy_C_skipIndent : MethodName := ⟨cn_C, "skipIndent", "(I)Z"⟩
def ws_C_skipIndent : List Cond := .code yy_C_skipIndent cc_C_skipIndent 3 (some .boolean) :: TB_
abbrev cc_C_takeLetter : ByteArray := prog_2_method_9_code
def yy_C_takeLetter : MethodName := ⟨cn_C, "takeLetter", "()I"⟩
def ws_C_takeLetter : List Cond := .code yy_C_takeLetter cc_C_takeLetter 3 (some .int) :: TB_
abbrev cc_C_skipDigit : ByteArray := prog_2_method_10_code
def yy_C_skipDigit : MethodName := ⟨cn_C, "skipDigit", "(I)Z"⟩
def ws_C_skipDigit : List Cond := .code yy_C_skipDigit cc_C_skipDigit 2 (some .boolean) :: TB_
abbrev cc_N_codeAt : ByteArray := prog_3_method_3_code
def yy_N_codeAt : MethodName := ⟨cn_N, "codeAt", "(JI)I"⟩
def ws_N_codeAt : List Cond := .code yy_N_codeAt cc_N_codeAt 3 (some .int) :: TB_
abbrev cc_N_withLetter : ByteArray := prog_3_method_4_code
def yy_N_withLetter : MethodName := ⟨cn_N, "withLetter", "(JII)J"⟩
def ws_N_withLetter : List Cond := .code yy_N_withLetter cc_N_withLetter 4 (some .long) :: TB_
abbrev cc_P_init : ByteArray := prog_4_method_1_code
def yy_P_init : MethodName := ⟨cn_P, "<init>", "()V"⟩
def ws_P_init : List Cond := .code yy_P_init cc_P_init 1 none :: TB_
abbrev cc_P_size : ByteArray := prog_4_method_2_code
def yy_P_size : MethodName := ⟨cn_P, "size", "()I"⟩
def ws_P_size : List Cond := .code yy_P_size cc_P_size 1 (some .int) :: TB_
abbrev cc_P_codeAt : ByteArray := prog_4_method_3_code
def yy_P_codeAt : MethodName := ⟨cn_P, "codeAt", "(I)I"⟩
def ws_P_codeAt : List Cond := .code yy_P_codeAt cc_P_codeAt 2 (some .int) :: TB_
abbrev cc_P_add : ByteArray := prog_4_method_4_code
def yy_P_add : MethodName := ⟨cn_P, "add", "(C)Z"⟩
def ws_P_add : List Cond := .code yy_P_add cc_P_add 2 (some .boolean) :: TB_
abbrev cc_P_replace : ByteArray := prog_4_method_5_code
def yy_P_replace : MethodName := ⟨cn_P, "replace", "(IC)Z"⟩
def ws_P_replace : List Cond := .code yy_P_replace cc_P_replace 3 (some .boolean) :: TB_
abbrev cc_P_shorten : ByteArray := prog_4_method_6_code
def yy_P_shorten : MethodName := ⟨cn_P, "shorten", "(I)Z"⟩
def ws_P_shorten : List Cond := .code yy_P_shorten cc_P_shorten 2 (some .boolean) :: TB_
abbrev cc_P_addText : ByteArray := prog_4_method_7_code
def yy_P_addText : MethodName := ⟨cn_P, "addText", "(Ljava/lang/String;)V"⟩
def ws_P_addText : List Cond := .code yy_P_addText cc_P_addText 3 none :: TB_
abbrev cc_P_addIndent : ByteArray := prog_4_method_8_code
def yy_P_addIndent : MethodName := ⟨cn_P, "addIndent", "(I)V"⟩
def ws_P_addIndent : List Cond := .code yy_P_addIndent cc_P_addIndent 3 none :: TB_
abbrev cc_P_addNumber : ByteArray := prog_4_method_9_code
def yy_P_addNumber : MethodName := ⟨cn_P, "addNumber", "(I)V"⟩
def ws_P_addNumber : List Cond := .code yy_P_addNumber cc_P_addNumber 2 none :: TB_
abbrev cc_P_cursor : ByteArray := prog_4_method_11_code
def yy_P_cursor : MethodName := ⟨cn_P, "cursor", "()LVerdictPages$LineCursor;"⟩
def ws_P_cursor : List Cond := .code yy_P_cursor cc_P_cursor 1 (some (.object "VerdictPages$LineCursor")) :: TB_
abbrev cc_E_init : ByteArray := prog_5_method_1_code
def yy_E_init : MethodName := ⟨cn_E, "<init>", "(LVerdictPages$LineCursor;LVerdictPages$Report;)V"⟩
def ws_E_init : List Cond := .code yy_E_init cc_E_init 3 none :: TB_
abbrev cc_W_init : ByteArray := prog_6_method_1_code
def yy_W_init : MethodName := ⟨cn_W, "<init>", "(LVerdictPages$Page;LVerdictPages$Report;)V"⟩
def ws_W_init : List Cond := .code yy_W_init cc_W_init 3 none :: TB_
abbrev cc_W_verdictOf : ByteArray := prog_6_method_8_code
def yy_W_verdictOf : MethodName := ⟨cn_W, "verdictOf", "(I)Ljava/lang/String;"⟩
def ws_W_verdictOf : List Cond := .code yy_W_verdictOf cc_W_verdictOf 1 (some (.object "java/lang/String")) :: TB_
abbrev cc_W_directiveOf : ByteArray := prog_6_method_9_code
def yy_W_directiveOf : MethodName := ⟨cn_W, "directiveOf", "(I)Ljava/lang/String;"⟩
def ws_W_directiveOf : List Cond := .code yy_W_directiveOf cc_W_directiveOf 1 (some (.object "java/lang/String")) :: TB_
abbrev cc_R_init : ByteArray := prog_7_method_1_code
def yy_R_init : MethodName := ⟨cn_R, "<init>", "()V"⟩
def ws_R_init : List Cond := .code yy_R_init cc_R_init 1 none :: TB_
abbrev cc_R_removeAll : ByteArray := prog_7_method_2_code
def yy_R_removeAll : MethodName := ⟨cn_R, "removeAll", "()V"⟩
def ws_R_removeAll : List Cond := .code yy_R_removeAll cc_R_removeAll 1 none :: TB_
abbrev cc_R_size : ByteArray := prog_7_method_3_code
def yy_R_size : MethodName := ⟨cn_R, "size", "()I"⟩
def ws_R_size : List Cond := .code yy_R_size cc_R_size 1 (some .int) :: TB_
abbrev cc_R_has : ByteArray := prog_7_method_4_code
def yy_R_has : MethodName := ⟨cn_R, "has", "(I)Z"⟩
def ws_R_has : List Cond := .code yy_R_has cc_R_has 2 (some .boolean) :: TB_
abbrev cc_R_isTest : ByteArray := prog_7_method_5_code
def yy_R_isTest : MethodName := ⟨cn_R, "isTest", "(I)Z"⟩
def ws_R_isTest : List Cond := .code yy_R_isTest cc_R_isTest 2 (some .boolean) :: TB_
abbrev cc_R_kindOf : ByteArray := prog_7_method_6_code
def yy_R_kindOf : MethodName := ⟨cn_R, "kindOf", "(I)I"⟩
def ws_R_kindOf : List Cond := .code yy_R_kindOf cc_R_kindOf 2 (some .int) :: TB_
abbrev cc_R_depthOf : ByteArray := prog_7_method_7_code
def yy_R_depthOf : MethodName := ⟨cn_R, "depthOf", "(I)I"⟩
def ws_R_depthOf : List Cond := .code yy_R_depthOf cc_R_depthOf 2 (some .int) :: TB_
abbrev cc_R_suiteOf : ByteArray := prog_7_method_8_code
def yy_R_suiteOf : MethodName := ⟨cn_R, "suiteOf", "(I)I"⟩
def ws_R_suiteOf : List Cond := .code yy_R_suiteOf cc_R_suiteOf 2 (some .int) :: TB_
abbrev cc_R_nameOf : ByteArray := prog_7_method_9_code
def yy_R_nameOf : MethodName := ⟨cn_R, "nameOf", "(I)J"⟩
def ws_R_nameOf : List Cond := .code yy_R_nameOf cc_R_nameOf 2 (some .long) :: TB_
abbrev cc_R_innermost : ByteArray := prog_7_method_10_code
def yy_R_innermost : MethodName := ⟨cn_R, "innermost", "()I"⟩
def ws_R_innermost : List Cond := .code yy_R_innermost cc_R_innermost 1 (some .int) :: TB_
abbrev cc_R_openSuites : ByteArray := prog_7_method_11_code
def yy_R_openSuites : MethodName := ⟨cn_R, "openSuites", "()I"⟩
def ws_R_openSuites : List Cond := .code yy_R_openSuites cc_R_openSuites 1 (some .int) :: TB_
abbrev cc_R_rowDepth : ByteArray := prog_7_method_12_code
def yy_R_rowDepth : MethodName := ⟨cn_R, "rowDepth", "(I)I"⟩
def ws_R_rowDepth : List Cond := .code yy_R_rowDepth cc_R_rowDepth 2 (some .int) :: TB_
abbrev cc_R_addNode : ByteArray := prog_7_method_15_code
def yy_R_addNode : MethodName := ⟨cn_R, "addNode", "(IJ)I"⟩
def ws_R_addNode : List Cond := .code yy_R_addNode cc_R_addNode 5 (some .int) :: TB_
abbrev cc_R_areAttempts : ByteArray := prog_7_method_17_code
def yy_R_areAttempts : MethodName := ⟨cn_R, "areAttempts", "(II)Z"⟩
def ws_R_areAttempts : List Cond := .code yy_R_areAttempts cc_R_areAttempts 6 (some .boolean) :: TB_
abbrev cc_R_hasFailedBehind : ByteArray := prog_7_method_18_code
def yy_R_hasFailedBehind : MethodName := ⟨cn_R, "hasFailedBehind", "(I)Z"⟩
def ws_R_hasFailedBehind : List Cond := .code yy_R_hasFailedBehind cc_R_hasFailedBehind 3 (some .boolean) :: TB_
abbrev cc_R_countInRow : ByteArray := prog_7_method_19_code
def yy_R_countInRow : MethodName := ⟨cn_R, "countInRow", "(II)I"⟩
def ws_R_countInRow : List Cond := .code yy_R_countInRow cc_R_countInRow 5 (some .int) :: TB_
abbrev cc_V_init : ByteArray := prog_1_method_1_code
def yy_V_init : MethodName := ⟨cn_V, "<init>", "()V"⟩
def ws_V_init : List Cond := .code yy_V_init cc_V_init 1 none :: TB_
abbrev cc_V_reset : ByteArray := prog_1_method_6_code
def yy_V_reset : MethodName := ⟨cn_V, "reset", "()V"⟩
def ws_V_reset : List Cond := .code yy_V_reset cc_V_reset 1 none :: TB_
abbrev cc_V_nodes : ByteArray := prog_1_method_7_code
def yy_V_nodes : MethodName := ⟨cn_V, "nodes", "()I"⟩
def ws_V_nodes : List Cond := .code yy_V_nodes cc_V_nodes 1 (some .int) :: TB_
abbrev cc_V_kind : ByteArray := prog_1_method_8_code
def yy_V_kind : MethodName := ⟨cn_V, "kind", "(I)I"⟩
def ws_V_kind : List Cond := .code yy_V_kind cc_V_kind 2 (some .int) :: TB_
abbrev cc_V_depth : ByteArray := prog_1_method_9_code
def yy_V_depth : MethodName := ⟨cn_V, "depth", "(I)I"⟩
def ws_V_depth : List Cond := .code yy_V_depth cc_V_depth 2 (some .int) :: TB_
abbrev cc_V_length : ByteArray := prog_1_method_13_code
def yy_V_length : MethodName := ⟨cn_V, "length", "()I"⟩
def ws_V_length : List Cond := .code yy_V_length cc_V_length 1 (some .int) :: TB_
abbrev cc_V_at : ByteArray := prog_1_method_14_code
def yy_V_at : MethodName := ⟨cn_V, "at", "(I)I"⟩
def ws_V_at : List Cond := .code yy_V_at cc_V_at 2 (some .int) :: TB_
abbrev cc_V_cut : ByteArray := prog_1_method_17_code
def yy_V_cut : MethodName := ⟨cn_V, "cut", "(I)Z"⟩
def ws_V_cut : List Cond := .code yy_V_cut cc_V_cut 2 (some .boolean) :: TB_
abbrev cc_V_attempts : ByteArray := prog_1_method_18_code
def yy_V_attempts : MethodName := ⟨cn_V, "attempts", "(I)I"⟩
def ws_V_attempts : List Cond := .code yy_V_attempts cc_V_attempts 4 (some .int) :: TB_
abbrev cc_V_flaky : ByteArray := prog_1_method_19_code
def yy_V_flaky : MethodName := ⟨cn_V, "flaky", "(I)Z"⟩
def ws_V_flaky : List Cond := .code yy_V_flaky cc_V_flaky 5 (some .boolean) :: TB_
abbrev cc_V_addWithBegunName : ByteArray := prog_1_method_20_code
def yy_V_addWithBegunName : MethodName := ⟨cn_V, "addWithBegunName", "(I)I"⟩
def ws_V_addWithBegunName : List Cond := .code yy_V_addWithBegunName cc_V_addWithBegunName 3 (some .int) :: TB_
abbrev cc_V_isPlain : ByteArray := prog_1_method_21_code
def yy_V_isPlain : MethodName := ⟨cn_V, "isPlain", "(C)Z"⟩
def ws_V_isPlain : List Cond := .code yy_V_isPlain cc_V_isPlain 1 (some .boolean) :: TB_
abbrev cc_V_isOfPages : ByteArray := prog_1_method_22_code
def yy_V_isOfPages : MethodName := ⟨cn_V, "isOfPages", "(C)Z"⟩
def ws_V_isOfPages : List Cond := .code yy_V_isOfPages cc_V_isOfPages 1 (some .boolean) :: TB_
abbrev cc_M_init : ByteArray := prog_9_method_1_code
def yy_M_init : MethodName := ⟨cn_M, "<init>", "()V"⟩
def ws_M_init : List Cond := .code yy_M_init cc_M_init 1 none :: TB_
abbrev cc_M_part : ByteArray := prog_9_method_2_code
def yy_M_part : MethodName := ⟨cn_M, "part", "(II)J"⟩
def ws_M_part : List Cond := .code yy_M_part cc_M_part 2 (some .long) :: TB_
abbrev cc_M_letterOf : ByteArray := prog_9_method_3_code
def yy_M_letterOf : MethodName := ⟨cn_M, "letterOf", "(II)C"⟩
def ws_M_letterOf : List Cond := .code yy_M_letterOf cc_M_letterOf 4 (some .char) :: TB_
abbrev cc_M_letter : ByteArray := prog_9_method_4_code
def yy_M_letter : MethodName := ⟨cn_M, "letter", "(C)Z"⟩
def ws_M_letter : List Cond := .code yy_M_letter cc_M_letter 2 (some .boolean) :: TB_
abbrev cc_M_innermost : ByteArray := prog_9_method_5_code
def yy_M_innermost : MethodName := ⟨cn_M, "innermost", "(I)I"⟩
def ws_M_innermost : List Cond := .code yy_M_innermost cc_M_innermost 4 (some .int) :: TB_
abbrev cc_M_depthOf : ByteArray := prog_9_method_6_code
def yy_M_depthOf : MethodName := ⟨cn_M, "depthOf", "(II)I"⟩
def ws_M_depthOf : List Cond := .code yy_M_depthOf cc_M_depthOf 5 (some .int) :: TB_
abbrev cc_M_grow : ByteArray := prog_9_method_7_code
def yy_M_grow : MethodName := ⟨cn_M, "grow", "(II)I"⟩
def ws_M_grow : List Cond := .code yy_M_grow cc_M_grow 5 (some .int) :: TB_
abbrev cc_M_addNamed : ByteArray := prog_9_method_8_code
def yy_M_addNamed : MethodName := ⟨cn_M, "addNamed", "(I)I"⟩
def ws_M_addNamed : List Cond := .code yy_M_addNamed cc_M_addNamed 4 (some .int) :: TB_
abbrev cc_M_open : ByteArray := prog_9_method_9_code
def yy_M_open : MethodName := ⟨cn_M, "open", "()I"⟩
def ws_M_open : List Cond := .code yy_M_open cc_M_open 2 (some .int) :: TB_
abbrev cc_M_close : ByteArray := prog_9_method_10_code
def yy_M_close : MethodName := ⟨cn_M, "close", "()Z"⟩
def ws_M_close : List Cond := .code yy_M_close cc_M_close 2 (some .boolean) :: TB_
abbrev cc_M_test : ByteArray := prog_9_method_11_code
def yy_M_test : MethodName := ⟨cn_M, "test", "(I)I"⟩
def ws_M_test : List Cond := .code yy_M_test cc_M_test 2 (some .int) :: TB_
abbrev cc_M_reset : ByteArray := prog_9_method_12_code
def yy_M_reset : MethodName := ⟨cn_M, "reset", "()V"⟩
def ws_M_reset : List Cond := .code yy_M_reset cc_M_reset 1 none :: TB_
abbrev cc_M_nodes : ByteArray := prog_9_method_13_code
def yy_M_nodes : MethodName := ⟨cn_M, "nodes", "()I"⟩
def ws_M_nodes : List Cond := .code yy_M_nodes cc_M_nodes 1 (some .int) :: TB_
abbrev cc_M_node : ByteArray := prog_9_method_14_code
def yy_M_node : MethodName := ⟨cn_M, "node", "(I)Z"⟩
def ws_M_node : List Cond := .code yy_M_node cc_M_node 2 (some .boolean) :: TB_
abbrev cc_M_good : ByteArray := prog_9_method_15_code
def yy_M_good : MethodName := ⟨cn_M, "good", "(II)Z"⟩
def ws_M_good : List Cond := .code yy_M_good cc_M_good 7 (some .boolean) :: TB_
abbrev cc_M_kind : ByteArray := prog_9_method_16_code
def yy_M_kind : MethodName := ⟨cn_M, "kind", "(I)I"⟩
def ws_M_kind : List Cond := .code yy_M_kind cc_M_kind 2 (some .int) :: TB_
abbrev cc_M_depth : ByteArray := prog_9_method_17_code
def yy_M_depth : MethodName := ⟨cn_M, "depth", "(I)I"⟩
def ws_M_depth : List Cond := .code yy_M_depth cc_M_depth 2 (some .int) :: TB_
abbrev cc_M_name : ByteArray := prog_9_method_18_code
def yy_M_name : MethodName := ⟨cn_M, "name", "(II)I"⟩
def ws_M_name : List Cond := .code yy_M_name cc_M_name 3 (some .int) :: TB_
abbrev cc_M_placeOf : ByteArray := prog_9_method_19_code
def yy_M_placeOf : MethodName := ⟨cn_M, "placeOf", "(II)I"⟩
def ws_M_placeOf : List Cond := .code yy_M_placeOf cc_M_placeOf 5 (some .int) :: TB_
abbrev cc_M_rowSize : ByteArray := prog_9_method_20_code
def yy_M_rowSize : MethodName := ⟨cn_M, "rowSize", "(II)I"⟩
def ws_M_rowSize : List Cond := .code yy_M_rowSize cc_M_rowSize 5 (some .int) :: TB_
abbrev cc_M_add : ByteArray := prog_9_method_21_code
def yy_M_add : MethodName := ⟨cn_M, "add", "(C)V"⟩
def ws_M_add : List Cond := .code yy_M_add cc_M_add 2 none :: TB_
abbrev cc_M_addText : ByteArray := prog_9_method_22_code
def yy_M_addText : MethodName := ⟨cn_M, "addText", "(I)V"⟩
def ws_M_addText : List Cond := .code yy_M_addText cc_M_addText 3 none :: TB_
abbrev cc_M_addSpaces : ByteArray := prog_9_method_23_code
def yy_M_addSpaces : MethodName := ⟨cn_M, "addSpaces", "(I)V"⟩
def ws_M_addSpaces : List Cond := .code yy_M_addSpaces cc_M_addSpaces 3 none :: TB_
abbrev cc_M_addNumber : ByteArray := prog_9_method_24_code
def yy_M_addNumber : MethodName := ⟨cn_M, "addNumber", "(I)V"⟩
def ws_M_addNumber : List Cond := .code yy_M_addNumber cc_M_addNumber 2 none :: TB_
abbrev cc_M_addName : ByteArray := prog_9_method_25_code
def yy_M_addName : MethodName := ⟨cn_M, "addName", "(I)V"⟩
def ws_M_addName : List Cond := .code yy_M_addName cc_M_addName 4 none :: TB_
abbrev cc_M_addVerdict : ByteArray := prog_9_method_26_code
def yy_M_addVerdict : MethodName := ⟨cn_M, "addVerdict", "(IZ)V"⟩
def ws_M_addVerdict : List Cond := .code yy_M_addVerdict cc_M_addVerdict 3 none :: TB_
abbrev cc_M_finish : ByteArray := prog_9_method_27_code
def yy_M_finish : MethodName := ⟨cn_M, "finish", "(I)V"⟩
def ws_M_finish : List Cond := .code yy_M_finish cc_M_finish 2 none :: TB_
abbrev cc_M_write : ByteArray := prog_9_method_28_code
def yy_M_write : MethodName := ⟨cn_M, "write", "()I"⟩
def ws_M_write : List Cond := .code yy_M_write cc_M_write 3 (some .int) :: TB_
abbrev cc_M_eat : ByteArray := prog_9_method_29_code
def yy_M_eat : MethodName := ⟨cn_M, "eat", "(I)Z"⟩
def ws_M_eat : List Cond := .code yy_M_eat cc_M_eat 4 (some .boolean) :: TB_
abbrev cc_M_eatSpaces : ByteArray := prog_9_method_30_code
def yy_M_eatSpaces : MethodName := ⟨cn_M, "eatSpaces", "(I)Z"⟩
def ws_M_eatSpaces : List Cond := .code yy_M_eatSpaces cc_M_eatSpaces 3 (some .boolean) :: TB_
abbrev cc_M_eatDigit : ByteArray := prog_9_method_31_code
def yy_M_eatDigit : MethodName := ⟨cn_M, "eatDigit", "(I)Z"⟩
def ws_M_eatDigit : List Cond := .code yy_M_eatDigit cc_M_eatDigit 2 (some .boolean) :: TB_
abbrev cc_M_eatNumber : ByteArray := prog_9_method_32_code
def yy_M_eatNumber : MethodName := ⟨cn_M, "eatNumber", "(I)Z"⟩
def ws_M_eatNumber : List Cond := .code yy_M_eatNumber cc_M_eatNumber 2 (some .boolean) :: TB_
abbrev cc_M_eatName : ByteArray := prog_9_method_33_code
def yy_M_eatName : MethodName := ⟨cn_M, "eatName", "(I)Z"⟩
def ws_M_eatName : List Cond := .code yy_M_eatName cc_M_eatName 3 (some .boolean) :: TB_
abbrev cc_M_accept : ByteArray := prog_9_method_34_code
def yy_M_accept : MethodName := ⟨cn_M, "accept", "(I)Z"⟩
def ws_M_accept : List Cond := .code yy_M_accept cc_M_accept 4 (some .boolean) :: TB_
abbrev cc_M_isName : ByteArray := prog_9_method_35_code
def yy_M_isName : MethodName := ⟨cn_M, "isName", "(I)Z"⟩
def ws_M_isName : List Cond := .code yy_M_isName cc_M_isName 4 (some .boolean) :: TB_
abbrev cc_M_closing : ByteArray := prog_9_method_36_code
def yy_M_closing : MethodName := ⟨cn_M, "closing", "()Z"⟩
def ws_M_closing : List Cond := .code yy_M_closing cc_M_closing 3 (some .boolean) :: TB_
abbrev cc_M_plan : ByteArray := prog_9_method_37_code
def yy_M_plan : MethodName := ⟨cn_M, "plan", "(II)Z"⟩
def ws_M_plan : List Cond := .code yy_M_plan cc_M_plan 3 (some .boolean) :: TB_
abbrev cc_M_bail : ByteArray := prog_9_method_38_code
def yy_M_bail : MethodName := ⟨cn_M, "bail", "(I)Z"⟩
def ws_M_bail : List Cond := .code yy_M_bail cc_M_bail 2 (some .boolean) :: TB_
abbrev cc_M_subtest : ByteArray := prog_9_method_39_code
def yy_M_subtest : MethodName := ⟨cn_M, "subtest", "(II)Z"⟩
def ws_M_subtest : List Cond := .code yy_M_subtest cc_M_subtest 3 (some .boolean) :: TB_
abbrev cc_M_endsWith : ByteArray := prog_9_method_40_code
def yy_M_endsWith : MethodName := ⟨cn_M, "endsWith", "(III)Z"⟩
def ws_M_endsWith : List Cond := .code yy_M_endsWith cc_M_endsWith 6 (some .boolean) :: TB_
abbrev cc_M_testLine : ByteArray := prog_9_method_41_code
def yy_M_testLine : MethodName := ⟨cn_M, "testLine", "(II)Z"⟩
def ws_M_testLine : List Cond := .code yy_M_testLine cc_M_testLine 6 (some .boolean) :: TB_
abbrev cc_M_line : ByteArray := prog_9_method_42_code
def yy_M_line : MethodName := ⟨cn_M, "line", "(I)Z"⟩
def ws_M_line : List Cond := .code yy_M_line cc_M_line 3 (some .boolean) :: TB_
abbrev cc_M_adopt : ByteArray := prog_9_method_43_code
def yy_M_adopt : MethodName := ⟨cn_M, "adopt", "()V"⟩
def ws_M_adopt : List Cond := .code yy_M_adopt cc_M_adopt 2 none :: TB_
abbrev cc_M_read : ByteArray := prog_9_method_44_code
def yy_M_read : MethodName := ⟨cn_M, "read", "()I"⟩
def ws_M_read : List Cond := .code yy_M_read cc_M_read 4 (some .int) :: TB_
abbrev cc_M_length : ByteArray := prog_9_method_45_code
def yy_M_length : MethodName := ⟨cn_M, "length", "()I"⟩
def ws_M_length : List Cond := .code yy_M_length cc_M_length 1 (some .int) :: TB_
abbrev cc_M_at : ByteArray := prog_9_method_46_code
def yy_M_at : MethodName := ⟨cn_M, "at", "(I)I"⟩
def ws_M_at : List Cond := .code yy_M_at cc_M_at 2 (some .int) :: TB_
abbrev cc_M_fits : ByteArray := prog_9_method_47_code
def yy_M_fits : MethodName := ⟨cn_M, "fits", "(C)Z"⟩
def ws_M_fits : List Cond := .code yy_M_fits cc_M_fits 1 (some .boolean) :: TB_
abbrev cc_M_put : ByteArray := prog_9_method_48_code
def yy_M_put : MethodName := ⟨cn_M, "put", "(C)Z"⟩
def ws_M_put : List Cond := .code yy_M_put cc_M_put 2 (some .boolean) :: TB_
abbrev cc_M_poke : ByteArray := prog_9_method_49_code
def yy_M_poke : MethodName := ⟨cn_M, "poke", "(IC)Z"⟩
def ws_M_poke : List Cond := .code yy_M_poke cc_M_poke 3 (some .boolean) :: TB_
abbrev cc_M_cut : ByteArray := prog_9_method_50_code
def yy_M_cut : MethodName := ⟨cn_M, "cut", "(I)Z"⟩
def ws_M_cut : List Cond := .code yy_M_cut cc_M_cut 2 (some .boolean) :: TB_
abbrev cc_M_sameName : ByteArray := prog_9_method_51_code
def yy_M_sameName : MethodName := ⟨cn_M, "sameName", "(II)Z"⟩
def ws_M_sameName : List Cond := .code yy_M_sameName cc_M_sameName 5 (some .boolean) :: TB_
abbrev cc_M_alike : ByteArray := prog_9_method_52_code
def yy_M_alike : MethodName := ⟨cn_M, "alike", "(II)Z"⟩
def ws_M_alike : List Cond := .code yy_M_alike cc_M_alike 6 (some .boolean) :: TB_
abbrev cc_M_attempts : ByteArray := prog_9_method_53_code
def yy_M_attempts : MethodName := ⟨cn_M, "attempts", "(I)I"⟩
def ws_M_attempts : List Cond := .code yy_M_attempts cc_M_attempts 4 (some .int) :: TB_
abbrev cc_M_flaky : ByteArray := prog_9_method_54_code
def yy_M_flaky : MethodName := ⟨cn_M, "flaky", "(I)Z"⟩
def ws_M_flaky : List Cond := .code yy_M_flaky cc_M_flaky 6 (some .boolean) :: TB_
abbrev cc_C_skipNumber : ByteArray := prog_2_method_7_code
def yy_C_skipNumber : MethodName := ⟨cn_C, "skipNumber", "(I)Z"⟩
def ws_C_skipNumber : List Cond := .code yy_C_skipNumber cc_C_skipNumber 2 (some .boolean) :: TB_
abbrev cc_C_takeName : ByteArray := prog_2_method_8_code
def yy_C_takeName : MethodName := ⟨cn_C, "takeName", "()J"⟩
def ws_C_takeName : List Cond := .code yy_C_takeName cc_C_takeName 5 (some .long) :: TB_
abbrev cc_N_sizeOf : ByteArray := prog_3_method_2_code
def yy_N_sizeOf : MethodName := ⟨cn_N, "sizeOf", "(J)I"⟩
def ws_N_sizeOf : List Cond := .code yy_N_sizeOf cc_N_sizeOf 3 (some .int) :: TB_
abbrev cc_P_addWritten : ByteArray := prog_4_method_10_code
def yy_P_addWritten : MethodName := ⟨cn_P, "addWritten", "(J)V"⟩
def ws_P_addWritten : List Cond := .code yy_P_addWritten cc_P_addWritten 6 none :: TB_
abbrev cc_W_writeSubtest : ByteArray := prog_6_method_6_code
def yy_W_writeSubtest : MethodName := ⟨cn_W, "writeSubtest", "(I)V"⟩
def ws_W_writeSubtest : List Cond := .code yy_W_writeSubtest cc_W_writeSubtest 2 none :: TB_
abbrev cc_R_rowSize : ByteArray := prog_7_method_13_code
def yy_R_rowSize : MethodName := ⟨cn_R, "rowSize", "(I)I"⟩
def ws_R_rowSize : List Cond := .code yy_R_rowSize cc_R_rowSize 2 (some .int) :: TB_
abbrev cc_R_placeOf : ByteArray := prog_7_method_14_code
def yy_R_placeOf : MethodName := ⟨cn_R, "placeOf", "(I)I"⟩
def ws_R_placeOf : List Cond := .code yy_R_placeOf cc_R_placeOf 2 (some .int) :: TB_
abbrev cc_R_closeLastOpen : ByteArray := prog_7_method_16_code
def yy_R_closeLastOpen : MethodName := ⟨cn_R, "closeLastOpen", "()Z"⟩
def ws_R_closeLastOpen : List Cond := .code yy_R_closeLastOpen cc_R_closeLastOpen 1 (some .boolean) :: TB_
abbrev cc_V_letter : ByteArray := prog_1_method_2_code
def yy_V_letter : MethodName := ⟨cn_V, "letter", "(C)Z"⟩
def ws_V_letter : List Cond := .code yy_V_letter cc_V_letter 3 (some .boolean) :: TB_
abbrev cc_V_open : ByteArray := prog_1_method_3_code
def yy_V_open : MethodName := ⟨cn_V, "open", "()I"⟩
def ws_V_open : List Cond := .code yy_V_open cc_V_open 1 (some .int) :: TB_
abbrev cc_V_close : ByteArray := prog_1_method_4_code
def yy_V_close : MethodName := ⟨cn_V, "close", "()Z"⟩
def ws_V_close : List Cond := .code yy_V_close cc_V_close 1 (some .boolean) :: TB_
abbrev cc_V_test : ByteArray := prog_1_method_5_code
def yy_V_test : MethodName := ⟨cn_V, "test", "(I)I"⟩
def ws_V_test : List Cond := .code yy_V_test cc_V_test 2 (some .int) :: TB_
abbrev cc_V_name : ByteArray := prog_1_method_10_code
def yy_V_name : MethodName := ⟨cn_V, "name", "(II)I"⟩
def ws_V_name : List Cond := .code yy_V_name cc_V_name 5 (some .int) :: TB_
abbrev cc_V_put : ByteArray := prog_1_method_15_code
def yy_V_put : MethodName := ⟨cn_V, "put", "(C)Z"⟩
def ws_V_put : List Cond := .code yy_V_put cc_V_put 2 (some .boolean) :: TB_
abbrev cc_V_poke : ByteArray := prog_1_method_16_code
def yy_V_poke : MethodName := ⟨cn_V, "poke", "(IC)Z"⟩
def ws_V_poke : List Cond := .code yy_V_poke cc_V_poke 3 (some .boolean) :: TB_
abbrev cc_E_takeTest : ByteArray := prog_5_method_5_code
def yy_E_takeTest : MethodName := ⟨cn_E, "takeTest", "(ILjava/lang/String;I)Z"⟩
def ws_E_takeTest : List Cond := .code yy_E_takeTest cc_E_takeTest 8 (some .boolean) :: TB_
abbrev cc_E_takeSuiteEnd : ByteArray := prog_5_method_6_code
def yy_E_takeSuiteEnd : MethodName := ⟨cn_E, "takeSuiteEnd", "()Z"⟩
def ws_E_takeSuiteEnd : List Cond := .code yy_E_takeSuiteEnd cc_E_takeSuiteEnd 2 (some .boolean) :: TB_
abbrev cc_W_writePlan : ByteArray := prog_6_method_5_code
def yy_W_writePlan : MethodName := ⟨cn_W, "writePlan", "(I)V"⟩
def ws_W_writePlan : List Cond := .code yy_W_writePlan cc_W_writePlan 2 none :: TB_
abbrev cc_W_writeVerdict : ByteArray := prog_6_method_7_code
def yy_W_writeVerdict : MethodName := ⟨cn_W, "writeVerdict", "(I)V"⟩
def ws_W_writeVerdict : List Cond := .code yy_W_writeVerdict cc_W_writeVerdict 3 none :: TB_
abbrev cc_E_takeRowLine : ByteArray := prog_5_method_4_code
def yy_E_takeRowLine : MethodName := ⟨cn_E, "takeRowLine", "()Z"⟩
def ws_E_takeRowLine : List Cond := .code yy_E_takeRowLine cc_E_takeRowLine 2 (some .boolean) :: TB_
abbrev cc_W_endSuites : ByteArray := prog_6_method_3_code
def yy_W_endSuites : MethodName := ⟨cn_W, "endSuites", "(II)V"⟩
def ws_W_endSuites : List Cond := .code yy_W_endSuites cc_W_endSuites 5 none :: TB_
abbrev cc_W_writeEnd : ByteArray := prog_6_method_4_code
def yy_W_writeEnd : MethodName := ⟨cn_W, "writeEnd", "()V"⟩
def ws_W_writeEnd : List Cond := .code yy_W_writeEnd cc_W_writeEnd 1 none :: TB_
abbrev cc_E_takeLine : ByteArray := prog_5_method_3_code
def yy_E_takeLine : MethodName := ⟨cn_E, "takeLine", "()Z"⟩
def ws_E_takeLine : List Cond := .code yy_E_takeLine cc_E_takeLine 1 (some .boolean) :: TB_
abbrev cc_W_writeAll : ByteArray := prog_6_method_2_code
def yy_W_writeAll : MethodName := ⟨cn_W, "writeAll", "()V"⟩
def ws_W_writeAll : List Cond := .code yy_W_writeAll cc_W_writeAll 3 none :: TB_
abbrev cc_V_write : ByteArray := prog_1_method_11_code
def yy_V_write : MethodName := ⟨cn_V, "write", "()I"⟩
def ws_V_write : List Cond := .code yy_V_write cc_V_write 1 (some .int) :: TB_
abbrev cc_E_readAll : ByteArray := prog_5_method_2_code
def yy_E_readAll : MethodName := ⟨cn_E, "readAll", "()I"⟩
def ws_E_readAll : List Cond := .code yy_E_readAll cc_E_readAll 2 (some .int) :: TB_
abbrev cc_V_read : ByteArray := prog_1_method_12_code
def yy_V_read : MethodName := ⟨cn_V, "read", "()I"⟩
def ws_V_read : List Cond := .code yy_V_read cc_V_read 3 (some .int) :: TB_
abbrev cc_L_law : ByteArray := code
def yy_L_law : MethodName := ⟨cn_L, "law", "([I)Z"⟩
def tt_R : u_T := fun k => match k with
  | 0 => ("VerdictPages$Report", "kinds", "[I", true)
  | 1 => ("VerdictPages$Report", "depths", "[I", true)
  | 2 => ("VerdictPages$Report", "suites", "[I", true)
  | 3 => ("VerdictPages$Report", "names", "[J", true)
  | 4 => ("VerdictPages$Report", "count", "I", false)
  | 5 => ("VerdictPages$Report", "lastOpen", "I", false)
  | _ => ("VerdictPages$Report", "openCount", "I", false)
def ty_R : Nat → FieldType := fun k => match k with
  | 0 => (.array .int)
  | 1 => (.array .int)
  | 2 => (.array .int)
  | 3 => (.array .long)
  | 4 => .int
  | 5 => .int
  | _ => .int
theorem nm_R : ∀ a, a < 7 → ∀ b, b < 7 → a ≠ b → (tt_R a).2.1 ≠ (tt_R b).2.1 := by decide +kernel
theorem tyok_R : ∀ k, k < 7 → parseFieldDescriptor (tt_R k).2.2.1 = some (ty_R k) := by decide +kernel
def tt_P : u_T := fun k => match k with
  | 0 => ("VerdictPages$Page", "characters", "[C", true)
  | _ => ("VerdictPages$Page", "size", "I", false)
def ty_P : Nat → FieldType := fun k => match k with
  | 0 => (.array .char)
  | _ => .int
theorem nm_P : ∀ a, a < 2 → ∀ b, b < 2 → a ≠ b → (tt_P a).2.1 ≠ (tt_P b).2.1 := by decide +kernel
theorem tyok_P : ∀ k, k < 2 → parseFieldDescriptor (tt_P k).2.2.1 = some (ty_P k) := by decide +kernel
def tt_W : u_T := fun k => match k with
  | 0 => ("VerdictPages$PageWriter", "page", "LVerdictPages$Page;", true)
  | _ => ("VerdictPages$PageWriter", "report", "LVerdictPages$Report;", true)
def ty_W : Nat → FieldType := fun k => match k with
  | 0 => (.object "VerdictPages$Page")
  | _ => (.object "VerdictPages$Report")
theorem nm_W : ∀ a, a < 2 → ∀ b, b < 2 → a ≠ b → (tt_W a).2.1 ≠ (tt_W b).2.1 := by decide +kernel
theorem tyok_W : ∀ k, k < 2 → parseFieldDescriptor (tt_W k).2.2.1 = some (ty_W k) := by decide +kernel
def tt_C : u_T := fun k => match k with
  | 0 => ("VerdictPages$LineCursor", "characters", "[C", true)
  | 1 => ("VerdictPages$LineCursor", "size", "I", true)
  | 2 => ("VerdictPages$LineCursor", "spot", "I", false)
  | _ => ("VerdictPages$LineCursor", "lineEnd", "I", false)
def ty_C : Nat → FieldType := fun k => match k with
  | 0 => (.array .char)
  | 1 => .int
  | 2 => .int
  | _ => .int
theorem nm_C : ∀ a, a < 4 → ∀ b, b < 4 → a ≠ b → (tt_C a).2.1 ≠ (tt_C b).2.1 := by decide +kernel
theorem tyok_C : ∀ k, k < 4 → parseFieldDescriptor (tt_C k).2.2.1 = some (ty_C k) := by decide +kernel
def tt_E : u_T := fun k => match k with
  | 0 => ("VerdictPages$PageReader", "cursor", "LVerdictPages$LineCursor;", true)
  | 1 => ("VerdictPages$PageReader", "report", "LVerdictPages$Report;", true)
  | _ => ("VerdictPages$PageReader", "stage", "I", false)
def ty_E : Nat → FieldType := fun k => match k with
  | 0 => (.object "VerdictPages$LineCursor")
  | 1 => (.object "VerdictPages$Report")
  | _ => .int
theorem nm_E : ∀ a, a < 3 → ∀ b, b < 3 → a ≠ b → (tt_E a).2.1 ≠ (tt_E b).2.1 := by decide +kernel
theorem tyok_E : ∀ k, k < 3 → parseFieldDescriptor (tt_E k).2.2.1 = some (ty_E k) := by decide +kernel
def tt_V : u_T := fun k => match k with
  | 0 => ("VerdictPages", "page", "LVerdictPages$Page;", true)
  | 1 => ("VerdictPages", "report", "LVerdictPages$Report;", false)
  | 2 => ("VerdictPages", "spare", "LVerdictPages$Report;", false)
  | _ => ("VerdictPages", "begunName", "J", false)
def ty_V : Nat → FieldType := fun k => match k with
  | 0 => (.object "VerdictPages$Page")
  | 1 => (.object "VerdictPages$Report")
  | 2 => (.object "VerdictPages$Report")
  | _ => .long
theorem nm_V : ∀ a, a < 4 → ∀ b, b < 4 → a ≠ b → (tt_V a).2.1 ≠ (tt_V b).2.1 := by decide +kernel
theorem tyok_V : ∀ k, k < 4 → parseFieldDescriptor (tt_V k).2.2.1 = some (ty_V k) := by decide +kernel
def tt_M : u_T := fun k => match k with
  | 0 => ("VerdictPagesModel", "begun", "I", false)
  | 1 => ("VerdictPagesModel", "name", "[C", true)
  | 2 => ("VerdictPagesModel", "count", "[I", true)
  | 3 => ("VerdictPagesModel", "parent", "[I", true)
  | 4 => ("VerdictPagesModel", "result", "[I", true)
  | 5 => ("VerdictPagesModel", "closed", "[Z", true)
  | 6 => ("VerdictPagesModel", "size", "[I", true)
  | 7 => ("VerdictPagesModel", "letters", "[C", true)
  | 8 => ("VerdictPagesModel", "length", "I", false)
  | 9 => ("VerdictPagesModel", "page", "[C", true)
  | 10 => ("VerdictPagesModel", "at", "I", false)
  | 11 => ("VerdictPagesModel", "end", "I", false)
  | 12 => ("VerdictPagesModel", "suite", "I", false)
  | 13 => ("VerdictPagesModel", "planned", "Z", false)
  | 14 => ("VerdictPagesModel", "over", "Z", false)
  | 15 => ("VerdictPagesModel", "taken", "I", false)
  | _ => ("VerdictPagesModel", "read", "[C", true)
def ty_M : Nat → FieldType := fun k => match k with
  | 0 => .int
  | 1 => (.array .char)
  | 2 => (.array .int)
  | 3 => (.array .int)
  | 4 => (.array .int)
  | 5 => (.array .boolean)
  | 6 => (.array .int)
  | 7 => (.array .char)
  | 8 => .int
  | 9 => (.array .char)
  | 10 => .int
  | 11 => .int
  | 12 => .int
  | 13 => .boolean
  | 14 => .boolean
  | 15 => .int
  | _ => (.array .char)
theorem nm_M : ∀ a, a < 17 → ∀ b, b < 17 → a ≠ b → (tt_M a).2.1 ≠ (tt_M b).2.1 := by decide +kernel
theorem tyok_M : ∀ k, k < 17 → parseFieldDescriptor (tt_M k).2.2.1 = some (ty_M k) := by decide +kernel
abbrev vwCl : List vw_C := [(cn_R, tt_R, 7), (cn_P, tt_P, 2), (cn_W, tt_W, 2), (cn_C, tt_C, 4), (cn_E, tt_E, 3), (cn_V, tt_V, 4), (cn_M, tt_M, 17)]
end
section
theorem tw_1_1 : Cond.initialized cn_V ∈ TB_ := TB_1 1 (by decide +kernel) rfl
theorem tw_1_100 : Cond.instanceMethod yy_V_addWithBegunName ∈ TB_ := TB_1 100 (by decide +kernel) rfl
theorem tw_1_101 : Cond.code yy_V_addWithBegunName prog_1_method_20_code 3 (Option.some FieldType.int) ∈ TB_ := TB_1 101 rfl rfl
theorem tw_1_102 : Cond.methodLink cn_V 120 yy_R_addNode ∈ TB_ := TB_1 102 (by decide +kernel) rfl
theorem tw_1_103 : Cond.instanceMethod yy_R_addNode ∈ TB_ := TB_1 103 (by decide +kernel) rfl
theorem tw_1_104 : Cond.selects cn_R yy_R_addNode yy_R_addNode ∈ TB_ := TB_1 104 (by decide +kernel) rfl
theorem tw_1_105 : Cond.code yy_R_addNode prog_7_method_15_code 5 (Option.some FieldType.int) ∈ TB_ := TB_1 105 rfl rfl
theorem tw_1_106 : Cond.methodLink cn_L 23 yy_V_close ∈ TB_ := TB_1 106 (by decide +kernel) rfl
theorem tw_1_107 : Cond.instanceMethod yy_V_close ∈ TB_ := TB_1 107 (by decide +kernel) rfl
theorem tw_1_108 : Cond.selects cn_V yy_V_close yy_V_close ∈ TB_ := TB_1 108 (by decide +kernel) rfl
theorem tw_1_109 : Cond.code yy_V_close prog_1_method_4_code 1 (Option.some FieldType.boolean) ∈ TB_ := TB_1 109 rfl rfl
theorem tw_1_11 : Cond.initialized cn_E ∈ TB_ := TB_1 11 (by decide +kernel) rfl
theorem tw_1_110 : Cond.methodLink cn_V 48 yy_R_closeLastOpen ∈ TB_ := TB_1 110 (by decide +kernel) rfl
theorem tw_1_111 : Cond.instanceMethod yy_R_closeLastOpen ∈ TB_ := TB_1 111 (by decide +kernel) rfl
theorem tw_1_112 : Cond.selects cn_R yy_R_closeLastOpen yy_R_closeLastOpen ∈ TB_ := TB_1 112 (by decide +kernel) rfl
theorem tw_1_113 : Cond.code yy_R_closeLastOpen prog_7_method_16_code 1 (Option.some FieldType.boolean) ∈ TB_ := TB_1 113 rfl rfl
theorem tw_1_114 : Cond.methodLink cn_R 35 yy_R_has ∈ TB_ := TB_1 114 (by decide +kernel) rfl
theorem tw_1_115 : Cond.instanceMethod yy_R_has ∈ TB_ := TB_1 115 (by decide +kernel) rfl
theorem tw_1_116 : Cond.selects cn_R yy_R_has yy_R_has ∈ TB_ := TB_1 116 (by decide +kernel) rfl
theorem tw_1_117 : Cond.code yy_R_has prog_7_method_4_code 2 (Option.some FieldType.boolean) ∈ TB_ := TB_1 117 rfl rfl
theorem tw_1_118 : Cond.methodLink cn_R 45 yy_R_hasFailedBehind ∈ TB_ := TB_1 118 (by decide +kernel) rfl
theorem tw_1_12 : Cond.initialized cn_C ∈ TB_ := TB_1 12 (by decide +kernel) rfl
theorem tw_1_120 : Cond.instanceMethod yy_R_hasFailedBehind ∈ TB_ := TB_1 120 (by decide +kernel) rfl
theorem tw_1_121 : Cond.code yy_R_hasFailedBehind prog_7_method_18_code 3 (Option.some FieldType.boolean) ∈ TB_ := TB_1 121 rfl rfl
theorem tw_1_122 : Cond.methodLink cn_L 28 yy_V_test ∈ TB_ := TB_1 122 (by decide +kernel) rfl
theorem tw_1_123 : Cond.instanceMethod yy_V_test ∈ TB_ := TB_1 123 (by decide +kernel) rfl
theorem tw_1_124 : Cond.selects cn_V yy_V_test yy_V_test ∈ TB_ := TB_1 124 (by decide +kernel) rfl
theorem tw_1_125 : Cond.code yy_V_test prog_1_method_5_code 2 (Option.some FieldType.int) ∈ TB_ := TB_1 125 rfl rfl
theorem tw_1_126 : Cond.methodLink cn_L 33 yy_V_reset ∈ TB_ := TB_1 126 (by decide +kernel) rfl
theorem tw_1_127 : Cond.instanceMethod yy_V_reset ∈ TB_ := TB_1 127 (by decide +kernel) rfl
theorem tw_1_128 : Cond.selects cn_V yy_V_reset yy_V_reset ∈ TB_ := TB_1 128 (by decide +kernel) rfl
theorem tw_1_129 : Cond.code yy_V_reset prog_1_method_6_code 1 (Option.none : Option FieldType) ∈ TB_ := TB_1 129 rfl rfl
theorem tw_1_13 : Cond.classLink cn_L 7 cn_V ∈ TB_ := TB_1 13 (by decide +kernel) rfl
theorem tw_1_130 : Cond.methodLink cn_V 52 yy_R_removeAll ∈ TB_ := TB_1 130 (by decide +kernel) rfl
theorem tw_1_131 : Cond.instanceMethod yy_R_removeAll ∈ TB_ := TB_1 131 (by decide +kernel) rfl
theorem tw_1_132 : Cond.selects cn_R yy_R_removeAll yy_R_removeAll ∈ TB_ := TB_1 132 (by decide +kernel) rfl
theorem tw_1_133 : Cond.code yy_R_removeAll prog_7_method_2_code 1 (Option.none : Option FieldType) ∈ TB_ := TB_1 133 rfl rfl
theorem tw_1_134 : Cond.methodLink cn_L 37 yy_V_nodes ∈ TB_ := TB_1 134 (by decide +kernel) rfl
theorem tw_1_135 : Cond.instanceMethod yy_V_nodes ∈ TB_ := TB_1 135 (by decide +kernel) rfl
theorem tw_1_136 : Cond.selects cn_V yy_V_nodes yy_V_nodes ∈ TB_ := TB_1 136 (by decide +kernel) rfl
theorem tw_1_137 : Cond.code yy_V_nodes prog_1_method_7_code 1 (Option.some FieldType.int) ∈ TB_ := TB_1 137 rfl rfl
theorem tw_1_138 : Cond.methodLink cn_V 55 yy_R_size ∈ TB_ := TB_1 138 (by decide +kernel) rfl
theorem tw_1_139 : Cond.instanceMethod yy_R_size ∈ TB_ := TB_1 139 (by decide +kernel) rfl
theorem tw_1_14 : Cond.instantiable cn_V 4 ∈ TB_ := TB_1 14 (by decide +kernel) rfl
theorem tw_1_140 : Cond.selects cn_R yy_R_size yy_R_size ∈ TB_ := TB_1 140 (by decide +kernel) rfl
theorem tw_1_141 : Cond.code yy_R_size prog_7_method_3_code 1 (Option.some FieldType.int) ∈ TB_ := TB_1 141 rfl rfl
theorem tw_1_142 : Cond.methodLink cn_L 41 yy_V_kind ∈ TB_ := TB_1 142 (by decide +kernel) rfl
theorem tw_1_143 : Cond.instanceMethod yy_V_kind ∈ TB_ := TB_1 143 (by decide +kernel) rfl
theorem tw_1_144 : Cond.selects cn_V yy_V_kind yy_V_kind ∈ TB_ := TB_1 144 (by decide +kernel) rfl
theorem tw_1_145 : Cond.code yy_V_kind prog_1_method_8_code 2 (Option.some FieldType.int) ∈ TB_ := TB_1 145 rfl rfl
theorem tw_1_146 : Cond.methodLink cn_V 59 yy_R_has ∈ TB_ := TB_1 146 (by decide +kernel) rfl
theorem tw_1_147 : Cond.methodLink cn_V 63 yy_R_kindOf ∈ TB_ := TB_1 147 (by decide +kernel) rfl
theorem tw_1_148 : Cond.instanceMethod yy_R_kindOf ∈ TB_ := TB_1 148 (by decide +kernel) rfl
theorem tw_1_149 : Cond.selects cn_R yy_R_kindOf yy_R_kindOf ∈ TB_ := TB_1 149 (by decide +kernel) rfl
theorem tw_1_15 : Cond.methodLink cn_L 9 yy_V_init ∈ TB_ := TB_1 15 (by decide +kernel) rfl
theorem tw_1_150 : Cond.code yy_R_kindOf prog_7_method_6_code 2 (Option.some FieldType.int) ∈ TB_ := TB_1 150 rfl rfl
theorem tw_1_151 : Cond.methodLink cn_L 45 yy_V_depth ∈ TB_ := TB_1 151 (by decide +kernel) rfl
theorem tw_1_152 : Cond.instanceMethod yy_V_depth ∈ TB_ := TB_1 152 (by decide +kernel) rfl
theorem tw_1_153 : Cond.selects cn_V yy_V_depth yy_V_depth ∈ TB_ := TB_1 153 (by decide +kernel) rfl
theorem tw_1_154 : Cond.code yy_V_depth prog_1_method_9_code 2 (Option.some FieldType.int) ∈ TB_ := TB_1 154 rfl rfl
theorem tw_1_155 : Cond.methodLink cn_V 66 yy_R_depthOf ∈ TB_ := TB_1 155 (by decide +kernel) rfl
theorem tw_1_156 : Cond.instanceMethod yy_R_depthOf ∈ TB_ := TB_1 156 (by decide +kernel) rfl
theorem tw_1_157 : Cond.selects cn_R yy_R_depthOf yy_R_depthOf ∈ TB_ := TB_1 157 (by decide +kernel) rfl
theorem tw_1_158 : Cond.code yy_R_depthOf prog_7_method_7_code 2 (Option.some FieldType.int) ∈ TB_ := TB_1 158 rfl rfl
theorem tw_1_159 : Cond.methodLink cn_L 49 yy_V_name ∈ TB_ := TB_1 159 (by decide +kernel) rfl
theorem tw_1_16 : Cond.instanceMethod yy_V_init ∈ TB_ := TB_1 16 (by decide +kernel) rfl
theorem tw_1_160 : Cond.instanceMethod yy_V_name ∈ TB_ := TB_1 160 (by decide +kernel) rfl
theorem tw_1_161 : Cond.selects cn_V yy_V_name yy_V_name ∈ TB_ := TB_1 161 (by decide +kernel) rfl
theorem tw_1_162 : Cond.code yy_V_name prog_1_method_10_code 5 (Option.some FieldType.int) ∈ TB_ := TB_1 162 rfl rfl
theorem tw_1_163 : Cond.methodLink cn_V 69 yy_R_nameOf ∈ TB_ := TB_1 163 (by decide +kernel) rfl
theorem tw_1_164 : Cond.instanceMethod yy_R_nameOf ∈ TB_ := TB_1 164 (by decide +kernel) rfl
theorem tw_1_165 : Cond.selects cn_R yy_R_nameOf yy_R_nameOf ∈ TB_ := TB_1 165 (by decide +kernel) rfl
theorem tw_1_166 : Cond.code yy_R_nameOf prog_7_method_9_code 2 (Option.some FieldType.long) ∈ TB_ := TB_1 166 rfl rfl
theorem tw_1_167 : Cond.methodLink cn_V 73 yy_N_codeAt ∈ TB_ := TB_1 167 (by decide +kernel) rfl
theorem tw_1_168 : Cond.methodLink cn_L 54 yy_V_write ∈ TB_ := TB_1 168 (by decide +kernel) rfl
theorem tw_1_169 : Cond.instanceMethod yy_V_write ∈ TB_ := TB_1 169 (by decide +kernel) rfl
theorem tw_1_17 : Cond.code yy_V_init prog_1_method_1_code 1 (Option.none : Option FieldType) ∈ TB_ := TB_1 17 rfl rfl
theorem tw_1_170 : Cond.selects cn_V yy_V_write yy_V_write ∈ TB_ := TB_1 170 (by decide +kernel) rfl
theorem tw_1_171 : Cond.code yy_V_write prog_1_method_11_code 1 (Option.some FieldType.int) ∈ TB_ := TB_1 171 rfl rfl
theorem tw_1_172 : Cond.classLink cn_V 77 cn_W ∈ TB_ := TB_1 172 (by decide +kernel) rfl
theorem tw_1_173 : Cond.instantiable cn_W 2 ∈ TB_ := TB_1 173 (by decide +kernel) rfl
theorem tw_1_174 : Cond.methodLink cn_V 79 yy_W_init ∈ TB_ := TB_1 174 (by decide +kernel) rfl
theorem tw_1_175 : Cond.instanceMethod yy_W_init ∈ TB_ := TB_1 175 (by decide +kernel) rfl
theorem tw_1_176 : Cond.code yy_W_init prog_6_method_1_code 3 (Option.none : Option FieldType) ∈ TB_ := TB_1 176 rfl rfl
theorem tw_1_177 : Cond.methodLink cn_W 3 objectInit ∈ TB_ := TB_1 177 (by decide +kernel) rfl
theorem tw_1_178 : Cond.fieldLink cn_W 9 cn_W "page" "LVerdictPages$Page;" ∈ TB_ := TB_1 178 (by decide +kernel) rfl
theorem tw_1_179 : Cond.fieldLink cn_W 15 cn_W "report" "LVerdictPages$Report;" ∈ TB_ := TB_1 179 (by decide +kernel) rfl
theorem tw_1_18 : Cond.methodLink cn_V 1 objectInit ∈ TB_ := TB_1 18 (by decide +kernel) rfl
theorem tw_1_180 : Cond.laysFinal cn_W cn_W "page" "LVerdictPages$Page;" ∈ TB_ := TB_1 180 (by decide +kernel) rfl
theorem tw_1_182 : Cond.laysFinal cn_W cn_W "report" "LVerdictPages$Report;" ∈ TB_ := TB_1 182 (by decide +kernel) rfl
theorem tw_1_185 : Cond.methodLink cn_V 82 yy_W_writeAll ∈ TB_ := TB_1 185 (by decide +kernel) rfl
theorem tw_1_186 : Cond.instanceMethod yy_W_writeAll ∈ TB_ := TB_1 186 (by decide +kernel) rfl
theorem tw_1_187 : Cond.selects cn_W yy_W_writeAll yy_W_writeAll ∈ TB_ := TB_1 187 (by decide +kernel) rfl
theorem tw_1_188 : Cond.code yy_W_writeAll prog_6_method_2_code 3 (Option.none : Option FieldType) ∈ TB_ := TB_1 188 rfl rfl
theorem tw_1_189 : Cond.methodLink cn_W 19 yy_P_shorten ∈ TB_ := TB_1 189 (by decide +kernel) rfl
theorem tw_1_19 : Cond.instanceMethod objectInit ∈ TB_ := TB_1 19 (by decide +kernel) rfl
theorem tw_1_190 : Cond.instanceMethod yy_P_shorten ∈ TB_ := TB_1 190 (by decide +kernel) rfl
theorem tw_1_191 : Cond.selects cn_P yy_P_shorten yy_P_shorten ∈ TB_ := TB_1 191 (by decide +kernel) rfl
theorem tw_1_192 : Cond.code yy_P_shorten prog_4_method_6_code 2 (Option.some FieldType.boolean) ∈ TB_ := TB_1 192 rfl rfl
theorem tw_1_194 : Cond.methodLink cn_W 27 yy_P_addText ∈ TB_ := TB_1 194 (by decide +kernel) rfl
theorem tw_1_195 : Cond.instanceMethod yy_P_addText ∈ TB_ := TB_1 195 (by decide +kernel) rfl
theorem tw_1_196 : Cond.selects cn_P yy_P_addText yy_P_addText ∈ TB_ := TB_1 196 (by decide +kernel) rfl
theorem tw_1_197 : Cond.code yy_P_addText prog_4_method_7_code 3 (Option.none : Option FieldType) ∈ TB_ := TB_1 197 rfl rfl
theorem tw_1_198 : Cond.methodLink cn_P 19 (⟨"java/lang/String", "length", "()I"⟩ : MethodName) ∈ TB_ := TB_1 198 (by decide +kernel) rfl
theorem tw_1_199 : Cond.instanceMethod (⟨"java/lang/String", "length", "()I"⟩ : MethodName) ∈ TB_ := TB_1 199 (by decide +kernel) rfl
theorem tw_1_2 : Cond.initialized cn_P ∈ TB_ := TB_1 2 (by decide +kernel) rfl
theorem tw_1_20 : Cond.code objectInit object_method_1_code 1 (Option.none : Option FieldType) ∈ TB_ := TB_1 20 rfl rfl
theorem tw_1_200 : Cond.selects "java/lang/String" (⟨"java/lang/String", "length", "()I"⟩ : MethodName) (⟨"java/lang/String", "length", "()I"⟩ : MethodName) ∈ TB_ := TB_1 200 (by decide +kernel) rfl
theorem tw_1_201 : Cond.code (⟨"java/lang/String", "length", "()I"⟩ : MethodName) prog_10_method_54_code 1 (Option.some FieldType.int) ∈ TB_ := TB_1 201 rfl rfl
theorem tw_1_202 : Cond.methodLink "java/lang/String" 335 (⟨"java/lang/String", "coder", "()B"⟩ : MethodName) ∈ TB_ := TB_1 202 (by decide +kernel) rfl
theorem tw_1_203 : Cond.instanceMethod (⟨"java/lang/String", "coder", "()B"⟩ : MethodName) ∈ TB_ := TB_1 203 (by decide +kernel) rfl
theorem tw_1_204 : Cond.selects "java/lang/String" (⟨"java/lang/String", "coder", "()B"⟩ : MethodName) (⟨"java/lang/String", "coder", "()B"⟩ : MethodName) ∈ TB_ := TB_1 204 (by decide +kernel) rfl
theorem tw_1_205 : Cond.code (⟨"java/lang/String", "coder", "()B"⟩ : MethodName) prog_10_method_152_code 1 (Option.some FieldType.byte) ∈ TB_ := TB_1 205 rfl rfl
theorem tw_1_206 : Cond.fieldLink "java/lang/String" 38 "java/lang/String" "COMPACT_STRINGS" "Z" ∈ TB_ := TB_1 206 (by decide +kernel) rfl
theorem tw_1_208 : Cond.methodLink cn_P 25 (⟨"java/lang/String", "charAt", "(I)C"⟩ : MethodName) ∈ TB_ := TB_1 208 (by decide +kernel) rfl
theorem tw_1_209 : Cond.instanceMethod (⟨"java/lang/String", "charAt", "(I)C"⟩ : MethodName) ∈ TB_ := TB_1 209 (by decide +kernel) rfl
theorem tw_1_21 : Cond.classLink cn_V 7 cn_P ∈ TB_ := TB_1 21 (by decide +kernel) rfl
theorem tw_1_210 : Cond.selects "java/lang/String" (⟨"java/lang/String", "charAt", "(I)C"⟩ : MethodName) (⟨"java/lang/String", "charAt", "(I)C"⟩ : MethodName) ∈ TB_ := TB_1 210 (by decide +kernel) rfl
theorem tw_1_211 : Cond.code (⟨"java/lang/String", "charAt", "(I)C"⟩ : MethodName) prog_10_method_56_code 2 (Option.some FieldType.char) ∈ TB_ := TB_1 211 rfl rfl
theorem tw_1_212 : Cond.methodLink "java/lang/String" 492 (⟨"java/lang/String", "isLatin1", "()Z"⟩ : MethodName) ∈ TB_ := TB_1 212 (by decide +kernel) rfl
theorem tw_1_213 : Cond.instanceMethod (⟨"java/lang/String", "isLatin1", "()Z"⟩ : MethodName) ∈ TB_ := TB_1 213 (by decide +kernel) rfl
theorem tw_1_214 : Cond.selects "java/lang/String" (⟨"java/lang/String", "isLatin1", "()Z"⟩ : MethodName) (⟨"java/lang/String", "isLatin1", "()Z"⟩ : MethodName) ∈ TB_ := TB_1 214 (by decide +kernel) rfl
theorem tw_1_215 : Cond.code (⟨"java/lang/String", "isLatin1", "()Z"⟩ : MethodName) prog_10_method_154_code 1 (Option.some FieldType.boolean) ∈ TB_ := TB_1 215 rfl rfl
theorem tw_1_216 : Cond.methodLink "java/lang/String" 495 (⟨"java/lang/StringLatin1", "charAt", "([BI)C"⟩ : MethodName) ∈ TB_ := TB_1 216 (by decide +kernel) rfl
theorem tw_1_217 : Cond.static (⟨"java/lang/StringLatin1", "charAt", "([BI)C"⟩ : MethodName) ∈ TB_ := TB_1 217 (by decide +kernel) rfl
theorem tw_1_218 : Cond.code (⟨"java/lang/StringLatin1", "charAt", "([BI)C"⟩ : MethodName) prog_11_method_2_code 2 (Option.some FieldType.char) ∈ TB_ := TB_1 218 rfl rfl
theorem tw_1_219 : Cond.methodLink "java/lang/StringLatin1" 9 (⟨"java/lang/String", "checkIndex", "(II)V"⟩ : MethodName) ∈ TB_ := TB_1 219 (by decide +kernel) rfl
theorem tw_1_22 : Cond.instantiable cn_P 2 ∈ TB_ := TB_1 22 (by decide +kernel) rfl
theorem tw_1_220 : Cond.static (⟨"java/lang/String", "checkIndex", "(II)V"⟩ : MethodName) ∈ TB_ := TB_1 220 (by decide +kernel) rfl
theorem tw_1_221 : Cond.code (⟨"java/lang/String", "checkIndex", "(II)V"⟩ : MethodName) prog_10_method_155_code 2 (Option.none : Option FieldType) ∈ TB_ := TB_1 221 rfl rfl
theorem tw_1_222 : Cond.fieldLink "java/lang/String" 1053 "jdk/internal/util/Preconditions" "SIOOBE_FORMATTER" "Ljava/util/function/BiFunction;" ∈ TB_ := TB_1 222 (by decide +kernel) rfl
theorem tw_1_224 : Cond.methodLink "java/lang/String" 1059 (⟨"jdk/internal/util/Preconditions", "checkIndex", "(IILjava/util/function/BiFunction;)I"⟩ : MethodName) ∈ TB_ := TB_1 224 (by decide +kernel) rfl
theorem tw_1_225 : Cond.static (⟨"jdk/internal/util/Preconditions", "checkIndex", "(IILjava/util/function/BiFunction;)I"⟩ : MethodName) ∈ TB_ := TB_1 225 (by decide +kernel) rfl
theorem tw_1_226 : Cond.code (⟨"jdk/internal/util/Preconditions", "checkIndex", "(IILjava/util/function/BiFunction;)I"⟩ : MethodName) prog_13_method_11_code 3 (Option.some FieldType.int) ∈ TB_ := TB_1 226 rfl rfl
theorem tw_1_24 : Cond.instanceMethod yy_P_init ∈ TB_ := TB_1 24 (by decide +kernel) rfl
theorem tw_1_25 : Cond.code yy_P_init prog_4_method_1_code 1 (Option.none : Option FieldType) ∈ TB_ := TB_1 25 rfl rfl
theorem tw_1_26 : Cond.methodLink cn_P 3 objectInit ∈ TB_ := TB_1 26 (by decide +kernel) rfl
theorem tw_1_27 : Cond.fieldLink cn_P 9 cn_P "characters" "[C" ∈ TB_ := TB_1 27 (by decide +kernel) rfl
theorem tw_1_28 : Cond.fieldLink cn_P 15 cn_P "size" "I" ∈ TB_ := TB_1 28 (by decide +kernel) rfl
theorem tw_1_29 : Cond.laysFinal cn_P cn_P "characters" "[C" ∈ TB_ := TB_1 29 (by decide +kernel) rfl
theorem tw_1_3 : Cond.initialized cn_R ∈ TB_ := TB_1 3 (by decide +kernel) rfl
theorem tw_1_31 : Cond.lays cn_P cn_P "size" "I" ∈ TB_ := TB_1 31 (by decide +kernel) rfl
theorem tw_1_34 : Cond.arrayClass FieldType.char ∈ TB_ := TB_1 34 (by decide +kernel) rfl
theorem tw_1_35 : Cond.classLink cn_V 16 cn_R ∈ TB_ := TB_1 35 (by decide +kernel) rfl
theorem tw_1_36 : Cond.instantiable cn_R 7 ∈ TB_ := TB_1 36 (by decide +kernel) rfl
theorem tw_1_38 : Cond.instanceMethod yy_R_init ∈ TB_ := TB_1 38 (by decide +kernel) rfl
theorem tw_1_39 : Cond.code yy_R_init prog_7_method_1_code 1 (Option.none : Option FieldType) ∈ TB_ := TB_1 39 rfl rfl
theorem tw_1_4 : Cond.initialized cn_M ∈ TB_ := TB_1 4 (by decide +kernel) rfl
theorem tw_1_40 : Cond.methodLink cn_R 3 objectInit ∈ TB_ := TB_1 40 (by decide +kernel) rfl
theorem tw_1_41 : Cond.fieldLink cn_R 9 cn_R "kinds" "[I" ∈ TB_ := TB_1 41 (by decide +kernel) rfl
theorem tw_1_42 : Cond.fieldLink cn_R 15 cn_R "depths" "[I" ∈ TB_ := TB_1 42 (by decide +kernel) rfl
theorem tw_1_43 : Cond.fieldLink cn_R 18 cn_R "suites" "[I" ∈ TB_ := TB_1 43 (by decide +kernel) rfl
theorem tw_1_44 : Cond.fieldLink cn_R 21 cn_R "names" "[J" ∈ TB_ := TB_1 44 (by decide +kernel) rfl
theorem tw_1_45 : Cond.fieldLink cn_R 25 cn_R "count" "I" ∈ TB_ := TB_1 45 (by decide +kernel) rfl
theorem tw_1_46 : Cond.fieldLink cn_R 29 cn_R "lastOpen" "I" ∈ TB_ := TB_1 46 (by decide +kernel) rfl
theorem tw_1_47 : Cond.fieldLink cn_R 32 cn_R "openCount" "I" ∈ TB_ := TB_1 47 (by decide +kernel) rfl
theorem tw_1_48 : Cond.laysFinal cn_R cn_R "kinds" "[I" ∈ TB_ := TB_1 48 (by decide +kernel) rfl
theorem tw_1_5 : Cond.initialized cn_N ∈ TB_ := TB_1 5 (by decide +kernel) rfl
theorem tw_1_50 : Cond.laysFinal cn_R cn_R "depths" "[I" ∈ TB_ := TB_1 50 (by decide +kernel) rfl
theorem tw_1_52 : Cond.laysFinal cn_R cn_R "suites" "[I" ∈ TB_ := TB_1 52 (by decide +kernel) rfl
theorem tw_1_54 : Cond.laysFinal cn_R cn_R "names" "[J" ∈ TB_ := TB_1 54 (by decide +kernel) rfl
theorem tw_1_56 : Cond.lays cn_R cn_R "count" "I" ∈ TB_ := TB_1 56 (by decide +kernel) rfl
theorem tw_1_58 : Cond.lays cn_R cn_R "lastOpen" "I" ∈ TB_ := TB_1 58 (by decide +kernel) rfl
theorem tw_1_6 : Cond.initialized cn_W ∈ TB_ := TB_1 6 (by decide +kernel) rfl
theorem tw_1_60 : Cond.lays cn_R cn_R "openCount" "I" ∈ TB_ := TB_1 60 (by decide +kernel) rfl
theorem tw_1_63 : Cond.arrayClass FieldType.int ∈ TB_ := TB_1 63 (by decide +kernel) rfl
theorem tw_1_64 : Cond.arrayClass FieldType.long ∈ TB_ := TB_1 64 (by decide +kernel) rfl
theorem tw_1_65 : Cond.fieldLink cn_V 10 cn_V "page" "LVerdictPages$Page;" ∈ TB_ := TB_1 65 (by decide +kernel) rfl
theorem tw_1_66 : Cond.fieldLink cn_V 19 cn_V "report" "LVerdictPages$Report;" ∈ TB_ := TB_1 66 (by decide +kernel) rfl
theorem tw_1_67 : Cond.fieldLink cn_V 23 cn_V "spare" "LVerdictPages$Report;" ∈ TB_ := TB_1 67 (by decide +kernel) rfl
theorem tw_1_68 : Cond.fieldLink cn_V 28 cn_V "begunName" "J" ∈ TB_ := TB_1 68 (by decide +kernel) rfl
theorem tw_1_69 : Cond.laysFinal cn_V cn_V "page" "LVerdictPages$Page;" ∈ TB_ := TB_1 69 (by decide +kernel) rfl
theorem tw_1_7 : Cond.initialized "java/lang/String" ∈ TB_ := TB_1 7 (by decide +kernel) rfl
theorem tw_1_71 : Cond.lays cn_V cn_V "report" "LVerdictPages$Report;" ∈ TB_ := TB_1 71 (by decide +kernel) rfl
theorem tw_1_73 : Cond.lays cn_V cn_V "spare" "LVerdictPages$Report;" ∈ TB_ := TB_1 73 (by decide +kernel) rfl
theorem tw_1_75 : Cond.lays cn_V cn_V "begunName" "J" ∈ TB_ := TB_1 75 (by decide +kernel) rfl
theorem tw_1_78 : Cond.methodLink cn_L 13 yy_V_letter ∈ TB_ := TB_1 78 (by decide +kernel) rfl
theorem tw_1_79 : Cond.instanceMethod yy_V_letter ∈ TB_ := TB_1 79 (by decide +kernel) rfl
theorem tw_1_8 : Cond.initialized "java/lang/StringLatin1" ∈ TB_ := TB_1 8 (by decide +kernel) rfl
theorem tw_1_80 : Cond.selects cn_V yy_V_letter yy_V_letter ∈ TB_ := TB_1 80 (by decide +kernel) rfl
theorem tw_1_81 : Cond.code yy_V_letter prog_1_method_2_code 3 (Option.some FieldType.boolean) ∈ TB_ := TB_1 81 rfl rfl
theorem tw_1_82 : Cond.methodLink cn_V 32 yy_N_sizeOf ∈ TB_ := TB_1 82 (by decide +kernel) rfl
theorem tw_1_83 : Cond.static yy_N_sizeOf ∈ TB_ := TB_1 83 (by decide +kernel) rfl
theorem tw_1_84 : Cond.code yy_N_sizeOf prog_3_method_2_code 3 (Option.some FieldType.int) ∈ TB_ := TB_1 84 rfl rfl
theorem tw_1_85 : Cond.methodLink cn_N 9 yy_N_codeAt ∈ TB_ := TB_1 85 (by decide +kernel) rfl
theorem tw_1_86 : Cond.static yy_N_codeAt ∈ TB_ := TB_1 86 (by decide +kernel) rfl
theorem tw_1_87 : Cond.code yy_N_codeAt prog_3_method_3_code 3 (Option.some FieldType.int) ∈ TB_ := TB_1 87 rfl rfl
theorem tw_1_88 : Cond.methodLink cn_V 36 yy_V_isPlain ∈ TB_ := TB_1 88 (by decide +kernel) rfl
theorem tw_1_89 : Cond.static yy_V_isPlain ∈ TB_ := TB_1 89 (by decide +kernel) rfl
theorem tw_1_9 : Cond.initialized "jdk/internal/util/Preconditions" ∈ TB_ := TB_1 9 (by decide +kernel) rfl
theorem tw_1_90 : Cond.code yy_V_isPlain prog_1_method_21_code 1 (Option.some FieldType.boolean) ∈ TB_ := TB_1 90 rfl rfl
theorem tw_1_91 : Cond.methodLink cn_V 40 yy_N_withLetter ∈ TB_ := TB_1 91 (by decide +kernel) rfl
theorem tw_1_92 : Cond.static yy_N_withLetter ∈ TB_ := TB_1 92 (by decide +kernel) rfl
theorem tw_1_93 : Cond.code yy_N_withLetter prog_3_method_4_code 4 (Option.some FieldType.long) ∈ TB_ := TB_1 93 rfl rfl
theorem tw_1_94 : Cond.methodLink cn_L 18 yy_V_open ∈ TB_ := TB_1 94 (by decide +kernel) rfl
theorem tw_1_95 : Cond.instanceMethod yy_V_open ∈ TB_ := TB_1 95 (by decide +kernel) rfl
theorem tw_1_96 : Cond.selects cn_V yy_V_open yy_V_open ∈ TB_ := TB_1 96 (by decide +kernel) rfl
theorem tw_1_97 : Cond.code yy_V_open prog_1_method_3_code 1 (Option.some FieldType.int) ∈ TB_ := TB_1 97 rfl rfl
theorem tw_1_98 : Cond.methodLink cn_V 44 yy_V_addWithBegunName ∈ TB_ := TB_1 98 (by decide +kernel) rfl
theorem tw_2_10 : Cond.methodLink cn_W 31 yy_P_add ∈ TB_ := TB_2 10 (by decide +kernel) rfl
theorem tw_2_100 : Cond.selects cn_P yy_P_size yy_P_size ∈ TB_ := TB_2 100 (by decide +kernel) rfl
theorem tw_2_101 : Cond.code yy_P_size prog_4_method_2_code 1 (Option.some FieldType.int) ∈ TB_ := TB_2 101 rfl rfl
theorem tw_2_102 : Cond.arrayClass FieldType.byte ∈ TB_ := TB_2 102 (by decide +kernel) rfl
theorem tw_2_103 : Cond.methodLink cn_L 58 yy_V_read ∈ TB_ := TB_2 103 (by decide +kernel) rfl
theorem tw_2_104 : Cond.instanceMethod yy_V_read ∈ TB_ := TB_2 104 (by decide +kernel) rfl
theorem tw_2_105 : Cond.selects cn_V yy_V_read yy_V_read ∈ TB_ := TB_2 105 (by decide +kernel) rfl
theorem tw_2_106 : Cond.code yy_V_read prog_1_method_12_code 3 (Option.some FieldType.int) ∈ TB_ := TB_2 106 rfl rfl
theorem tw_2_107 : Cond.classLink cn_V 86 cn_E ∈ TB_ := TB_2 107 (by decide +kernel) rfl
theorem tw_2_108 : Cond.instantiable cn_E 3 ∈ TB_ := TB_2 108 (by decide +kernel) rfl
theorem tw_2_109 : Cond.methodLink cn_V 88 yy_P_cursor ∈ TB_ := TB_2 109 (by decide +kernel) rfl
theorem tw_2_11 : Cond.methodLink cn_W 35 yy_R_size ∈ TB_ := TB_2 11 (by decide +kernel) rfl
theorem tw_2_110 : Cond.instanceMethod yy_P_cursor ∈ TB_ := TB_2 110 (by decide +kernel) rfl
theorem tw_2_111 : Cond.selects cn_P yy_P_cursor yy_P_cursor ∈ TB_ := TB_2 111 (by decide +kernel) rfl
theorem tw_2_112 : Cond.code yy_P_cursor prog_4_method_11_code 1 (Option.some (FieldType.object "VerdictPages$LineCursor")) ∈ TB_ := TB_2 112 rfl rfl
theorem tw_2_113 : Cond.classLink cn_P 49 cn_C ∈ TB_ := TB_2 113 (by decide +kernel) rfl
theorem tw_2_114 : Cond.instantiable cn_C 4 ∈ TB_ := TB_2 114 (by decide +kernel) rfl
theorem tw_2_115 : Cond.methodLink cn_P 51 yy_C_init ∈ TB_ := TB_2 115 (by decide +kernel) rfl
theorem tw_2_116 : Cond.instanceMethod yy_C_init ∈ TB_ := TB_2 116 (by decide +kernel) rfl
theorem tw_2_117 : Cond.code yy_C_init prog_2_method_1_code 3 (Option.none : Option FieldType) ∈ TB_ := TB_2 117 rfl rfl
theorem tw_2_118 : Cond.methodLink cn_C 3 objectInit ∈ TB_ := TB_2 118 (by decide +kernel) rfl
theorem tw_2_119 : Cond.fieldLink cn_C 18 cn_C "characters" "[C" ∈ TB_ := TB_2 119 (by decide +kernel) rfl
theorem tw_2_12 : Cond.methodLink cn_W 41 yy_R_suiteOf ∈ TB_ := TB_2 12 (by decide +kernel) rfl
theorem tw_2_120 : Cond.fieldLink cn_C 22 cn_C "size" "I" ∈ TB_ := TB_2 120 (by decide +kernel) rfl
theorem tw_2_121 : Cond.fieldLink cn_C 9 cn_C "spot" "I" ∈ TB_ := TB_2 121 (by decide +kernel) rfl
theorem tw_2_122 : Cond.fieldLink cn_C 15 cn_C "lineEnd" "I" ∈ TB_ := TB_2 122 (by decide +kernel) rfl
theorem tw_2_123 : Cond.laysFinal cn_C cn_C "characters" "[C" ∈ TB_ := TB_2 123 (by decide +kernel) rfl
theorem tw_2_125 : Cond.laysFinal cn_C cn_C "size" "I" ∈ TB_ := TB_2 125 (by decide +kernel) rfl
theorem tw_2_127 : Cond.lays cn_C cn_C "spot" "I" ∈ TB_ := TB_2 127 (by decide +kernel) rfl
theorem tw_2_129 : Cond.lays cn_C cn_C "lineEnd" "I" ∈ TB_ := TB_2 129 (by decide +kernel) rfl
theorem tw_2_13 : Cond.instanceMethod yy_R_suiteOf ∈ TB_ := TB_2 13 (by decide +kernel) rfl
theorem tw_2_132 : Cond.methodLink cn_V 92 yy_E_init ∈ TB_ := TB_2 132 (by decide +kernel) rfl
theorem tw_2_133 : Cond.instanceMethod yy_E_init ∈ TB_ := TB_2 133 (by decide +kernel) rfl
theorem tw_2_134 : Cond.code yy_E_init prog_5_method_1_code 3 (Option.none : Option FieldType) ∈ TB_ := TB_2 134 rfl rfl
theorem tw_2_135 : Cond.methodLink cn_E 3 objectInit ∈ TB_ := TB_2 135 (by decide +kernel) rfl
theorem tw_2_136 : Cond.fieldLink cn_E 15 cn_E "cursor" "LVerdictPages$LineCursor;" ∈ TB_ := TB_2 136 (by decide +kernel) rfl
theorem tw_2_137 : Cond.fieldLink cn_E 19 cn_E "report" "LVerdictPages$Report;" ∈ TB_ := TB_2 137 (by decide +kernel) rfl
theorem tw_2_138 : Cond.fieldLink cn_E 11 cn_E "stage" "I" ∈ TB_ := TB_2 138 (by decide +kernel) rfl
theorem tw_2_139 : Cond.laysFinal cn_E cn_E "cursor" "LVerdictPages$LineCursor;" ∈ TB_ := TB_2 139 (by decide +kernel) rfl
theorem tw_2_14 : Cond.selects cn_R yy_R_suiteOf yy_R_suiteOf ∈ TB_ := TB_2 14 (by decide +kernel) rfl
theorem tw_2_141 : Cond.laysFinal cn_E cn_E "report" "LVerdictPages$Report;" ∈ TB_ := TB_2 141 (by decide +kernel) rfl
theorem tw_2_143 : Cond.lays cn_E cn_E "stage" "I" ∈ TB_ := TB_2 143 (by decide +kernel) rfl
theorem tw_2_146 : Cond.methodLink cn_V 95 yy_E_readAll ∈ TB_ := TB_2 146 (by decide +kernel) rfl
theorem tw_2_147 : Cond.instanceMethod yy_E_readAll ∈ TB_ := TB_2 147 (by decide +kernel) rfl
theorem tw_2_148 : Cond.selects cn_E yy_E_readAll yy_E_readAll ∈ TB_ := TB_2 148 (by decide +kernel) rfl
theorem tw_2_149 : Cond.code yy_E_readAll prog_5_method_2_code 2 (Option.some FieldType.int) ∈ TB_ := TB_2 149 rfl rfl
theorem tw_2_15 : Cond.code yy_R_suiteOf prog_7_method_8_code 2 (Option.some FieldType.int) ∈ TB_ := TB_2 15 rfl rfl
theorem tw_2_150 : Cond.methodLink cn_E 23 yy_R_removeAll ∈ TB_ := TB_2 150 (by decide +kernel) rfl
theorem tw_2_151 : Cond.methodLink cn_E 28 yy_C_isBehindLastLine ∈ TB_ := TB_2 151 (by decide +kernel) rfl
theorem tw_2_152 : Cond.instanceMethod yy_C_isBehindLastLine ∈ TB_ := TB_2 152 (by decide +kernel) rfl
theorem tw_2_153 : Cond.selects cn_C yy_C_isBehindLastLine yy_C_isBehindLastLine ∈ TB_ := TB_2 153 (by decide +kernel) rfl
theorem tw_2_154 : Cond.code yy_C_isBehindLastLine prog_2_method_2_code 1 (Option.some FieldType.boolean) ∈ TB_ := TB_2 154 rfl rfl
theorem tw_2_155 : Cond.methodLink cn_E 34 yy_C_goToNextLine ∈ TB_ := TB_2 155 (by decide +kernel) rfl
theorem tw_2_156 : Cond.instanceMethod yy_C_goToNextLine ∈ TB_ := TB_2 156 (by decide +kernel) rfl
theorem tw_2_157 : Cond.selects cn_C yy_C_goToNextLine yy_C_goToNextLine ∈ TB_ := TB_2 157 (by decide +kernel) rfl
theorem tw_2_158 : Cond.code yy_C_goToNextLine prog_2_method_3_code 2 (Option.some FieldType.boolean) ∈ TB_ := TB_2 158 rfl rfl
theorem tw_2_159 : Cond.methodLink cn_E 37 yy_E_takeLine ∈ TB_ := TB_2 159 (by decide +kernel) rfl
theorem tw_2_16 : Cond.methodLink cn_W 45 yy_W_endSuites ∈ TB_ := TB_2 16 (by decide +kernel) rfl
theorem tw_2_161 : Cond.instanceMethod yy_E_takeLine ∈ TB_ := TB_2 161 (by decide +kernel) rfl
theorem tw_2_162 : Cond.code yy_E_takeLine prog_5_method_3_code 1 (Option.some FieldType.boolean) ∈ TB_ := TB_2 162 rfl rfl
theorem tw_2_164 : Cond.methodLink cn_E 45 yy_C_skipText ∈ TB_ := TB_2 164 (by decide +kernel) rfl
theorem tw_2_165 : Cond.instanceMethod yy_C_skipText ∈ TB_ := TB_2 165 (by decide +kernel) rfl
theorem tw_2_166 : Cond.selects cn_C yy_C_skipText yy_C_skipText ∈ TB_ := TB_2 166 (by decide +kernel) rfl
theorem tw_2_167 : Cond.code yy_C_skipText prog_2_method_5_code 3 (Option.some FieldType.boolean) ∈ TB_ := TB_2 167 rfl rfl
theorem tw_2_168 : Cond.methodLink cn_C 25 (⟨"java/lang/String", "length", "()I"⟩ : MethodName) ∈ TB_ := TB_2 168 (by decide +kernel) rfl
theorem tw_2_169 : Cond.methodLink cn_C 31 (⟨"java/lang/String", "charAt", "(I)C"⟩ : MethodName) ∈ TB_ := TB_2 169 (by decide +kernel) rfl
theorem tw_2_170 : Cond.methodLink cn_E 49 yy_E_takeRowLine ∈ TB_ := TB_2 170 (by decide +kernel) rfl
theorem tw_2_172 : Cond.instanceMethod yy_E_takeRowLine ∈ TB_ := TB_2 172 (by decide +kernel) rfl
theorem tw_2_173 : Cond.code yy_E_takeRowLine prog_5_method_4_code 2 (Option.some FieldType.boolean) ∈ TB_ := TB_2 173 rfl rfl
theorem tw_2_174 : Cond.methodLink cn_E 55 yy_R_openSuites ∈ TB_ := TB_2 174 (by decide +kernel) rfl
theorem tw_2_176 : Cond.methodLink cn_E 61 yy_C_skipIndent ∈ TB_ := TB_2 176 (by decide +kernel) rfl
theorem tw_2_177 : Cond.instanceMethod yy_C_skipIndent ∈ TB_ := TB_2 177 (by decide +kernel) rfl
theorem tw_2_178 : Cond.selects cn_C yy_C_skipIndent yy_C_skipIndent ∈ TB_ := TB_2 178 (by decide +kernel) rfl
theorem tw_2_179 : Cond.code yy_C_skipIndent prog_2_method_6_code 3 (Option.some FieldType.boolean) ∈ TB_ := TB_2 179 rfl rfl
theorem tw_2_18 : Cond.instanceMethod yy_W_endSuites ∈ TB_ := TB_2 18 (by decide +kernel) rfl
theorem tw_2_181 : Cond.methodLink cn_C 37 yy_C_skipText ∈ TB_ := TB_2 181 (by decide +kernel) rfl
theorem tw_2_183 : Cond.methodLink cn_E 67 yy_R_innermost ∈ TB_ := TB_2 183 (by decide +kernel) rfl
theorem tw_2_184 : Cond.methodLink cn_E 70 yy_R_rowSize ∈ TB_ := TB_2 184 (by decide +kernel) rfl
theorem tw_2_185 : Cond.methodLink cn_E 74 yy_C_skipNumber ∈ TB_ := TB_2 185 (by decide +kernel) rfl
theorem tw_2_186 : Cond.instanceMethod yy_C_skipNumber ∈ TB_ := TB_2 186 (by decide +kernel) rfl
theorem tw_2_187 : Cond.selects cn_C yy_C_skipNumber yy_C_skipNumber ∈ TB_ := TB_2 187 (by decide +kernel) rfl
theorem tw_2_188 : Cond.code yy_C_skipNumber prog_2_method_7_code 2 (Option.some FieldType.boolean) ∈ TB_ := TB_2 188 rfl rfl
theorem tw_2_189 : Cond.methodLink cn_C 41 yy_C_skipDigit ∈ TB_ := TB_2 189 (by decide +kernel) rfl
theorem tw_2_19 : Cond.code yy_W_endSuites prog_6_method_3_code 5 (Option.none : Option FieldType) ∈ TB_ := TB_2 19 rfl rfl
theorem tw_2_191 : Cond.instanceMethod yy_C_skipDigit ∈ TB_ := TB_2 191 (by decide +kernel) rfl
theorem tw_2_192 : Cond.code yy_C_skipDigit prog_2_method_10_code 2 (Option.some FieldType.boolean) ∈ TB_ := TB_2 192 rfl rfl
theorem tw_2_194 : Cond.methodLink cn_E 79 yy_C_takeName ∈ TB_ := TB_2 194 (by decide +kernel) rfl
theorem tw_2_195 : Cond.instanceMethod yy_C_takeName ∈ TB_ := TB_2 195 (by decide +kernel) rfl
theorem tw_2_196 : Cond.selects cn_C yy_C_takeName yy_C_takeName ∈ TB_ := TB_2 196 (by decide +kernel) rfl
theorem tw_2_197 : Cond.code yy_C_takeName prog_2_method_8_code 5 (Option.some FieldType.long) ∈ TB_ := TB_2 197 rfl rfl
theorem tw_2_198 : Cond.methodLink cn_C 47 yy_C_takeLetter ∈ TB_ := TB_2 198 (by decide +kernel) rfl
theorem tw_2_20 : Cond.methodLink cn_W 65 yy_W_writePlan ∈ TB_ := TB_2 20 (by decide +kernel) rfl
theorem tw_2_200 : Cond.instanceMethod yy_C_takeLetter ∈ TB_ := TB_2 200 (by decide +kernel) rfl
theorem tw_2_201 : Cond.code yy_C_takeLetter prog_2_method_9_code 3 (Option.some FieldType.int) ∈ TB_ := TB_2 201 rfl rfl
theorem tw_2_202 : Cond.methodLink cn_C 50 yy_N_withLetter ∈ TB_ := TB_2 202 (by decide +kernel) rfl
theorem tw_2_203 : Cond.methodLink cn_E 83 yy_R_addNode ∈ TB_ := TB_2 203 (by decide +kernel) rfl
theorem tw_2_206 : Cond.methodLink cn_E 91 yy_E_takeTest ∈ TB_ := TB_2 206 (by decide +kernel) rfl
theorem tw_2_208 : Cond.instanceMethod yy_E_takeTest ∈ TB_ := TB_2 208 (by decide +kernel) rfl
theorem tw_2_209 : Cond.code yy_E_takeTest prog_5_method_5_code 8 (Option.some FieldType.boolean) ∈ TB_ := TB_2 209 rfl rfl
theorem tw_2_213 : Cond.methodLink cn_E 52 yy_E_takeSuiteEnd ∈ TB_ := TB_2 213 (by decide +kernel) rfl
theorem tw_2_215 : Cond.instanceMethod yy_E_takeSuiteEnd ∈ TB_ := TB_2 215 (by decide +kernel) rfl
theorem tw_2_216 : Cond.code yy_E_takeSuiteEnd prog_5_method_6_code 2 (Option.some FieldType.boolean) ∈ TB_ := TB_2 216 rfl rfl
theorem tw_2_217 : Cond.methodLink cn_E 101 yy_R_closeLastOpen ∈ TB_ := TB_2 217 (by decide +kernel) rfl
theorem tw_2_218 : Cond.methodLink cn_E 104 yy_R_depthOf ∈ TB_ := TB_2 218 (by decide +kernel) rfl
theorem tw_2_219 : Cond.methodLink cn_E 107 yy_R_kindOf ∈ TB_ := TB_2 219 (by decide +kernel) rfl
theorem tw_2_22 : Cond.instanceMethod yy_W_writePlan ∈ TB_ := TB_2 22 (by decide +kernel) rfl
theorem tw_2_220 : Cond.methodLink cn_E 110 yy_R_placeOf ∈ TB_ := TB_2 220 (by decide +kernel) rfl
theorem tw_2_221 : Cond.methodLink cn_E 113 yy_R_nameOf ∈ TB_ := TB_2 221 (by decide +kernel) rfl
theorem tw_2_222 : Cond.methodLink cn_E 40 yy_C_isAtLineEnd ∈ TB_ := TB_2 222 (by decide +kernel) rfl
theorem tw_2_223 : Cond.instanceMethod yy_C_isAtLineEnd ∈ TB_ := TB_2 223 (by decide +kernel) rfl
theorem tw_2_224 : Cond.selects cn_C yy_C_isAtLineEnd yy_C_isAtLineEnd ∈ TB_ := TB_2 224 (by decide +kernel) rfl
theorem tw_2_225 : Cond.code yy_C_isAtLineEnd prog_2_method_4_code 1 (Option.some FieldType.boolean) ∈ TB_ := TB_2 225 rfl rfl
theorem tw_2_226 : Cond.methodLink cn_L 62 yy_V_length ∈ TB_ := TB_2 226 (by decide +kernel) rfl
theorem tw_2_227 : Cond.instanceMethod yy_V_length ∈ TB_ := TB_2 227 (by decide +kernel) rfl
theorem tw_2_228 : Cond.selects cn_V yy_V_length yy_V_length ∈ TB_ := TB_2 228 (by decide +kernel) rfl
theorem tw_2_229 : Cond.code yy_V_length prog_1_method_13_code 1 (Option.some FieldType.int) ∈ TB_ := TB_2 229 rfl rfl
theorem tw_2_23 : Cond.code yy_W_writePlan prog_6_method_5_code 2 (Option.none : Option FieldType) ∈ TB_ := TB_2 23 rfl rfl
theorem tw_2_230 : Cond.methodLink cn_L 66 yy_V_at ∈ TB_ := TB_2 230 (by decide +kernel) rfl
theorem tw_2_231 : Cond.instanceMethod yy_V_at ∈ TB_ := TB_2 231 (by decide +kernel) rfl
theorem tw_2_232 : Cond.selects cn_V yy_V_at yy_V_at ∈ TB_ := TB_2 232 (by decide +kernel) rfl
theorem tw_2_233 : Cond.code yy_V_at prog_1_method_14_code 2 (Option.some FieldType.int) ∈ TB_ := TB_2 233 rfl rfl
theorem tw_2_234 : Cond.methodLink cn_V 98 yy_P_codeAt ∈ TB_ := TB_2 234 (by decide +kernel) rfl
theorem tw_2_235 : Cond.instanceMethod yy_P_codeAt ∈ TB_ := TB_2 235 (by decide +kernel) rfl
theorem tw_2_236 : Cond.selects cn_P yy_P_codeAt yy_P_codeAt ∈ TB_ := TB_2 236 (by decide +kernel) rfl
theorem tw_2_237 : Cond.code yy_P_codeAt prog_4_method_3_code 2 (Option.some FieldType.int) ∈ TB_ := TB_2 237 rfl rfl
theorem tw_2_238 : Cond.methodLink cn_L 70 yy_V_put ∈ TB_ := TB_2 238 (by decide +kernel) rfl
theorem tw_2_239 : Cond.instanceMethod yy_V_put ∈ TB_ := TB_2 239 (by decide +kernel) rfl
theorem tw_2_24 : Cond.methodLink cn_W 73 yy_R_rowDepth ∈ TB_ := TB_2 24 (by decide +kernel) rfl
theorem tw_2_25 : Cond.instanceMethod yy_R_rowDepth ∈ TB_ := TB_2 25 (by decide +kernel) rfl
theorem tw_2_26 : Cond.selects cn_R yy_R_rowDepth yy_R_rowDepth ∈ TB_ := TB_2 26 (by decide +kernel) rfl
theorem tw_2_27 : Cond.code yy_R_rowDepth prog_7_method_12_code 2 (Option.some FieldType.int) ∈ TB_ := TB_2 27 rfl rfl
theorem tw_2_28 : Cond.methodLink cn_W 76 yy_P_addIndent ∈ TB_ := TB_2 28 (by decide +kernel) rfl
theorem tw_2_29 : Cond.instanceMethod yy_P_addIndent ∈ TB_ := TB_2 29 (by decide +kernel) rfl
theorem tw_2_30 : Cond.selects cn_P yy_P_addIndent yy_P_addIndent ∈ TB_ := TB_2 30 (by decide +kernel) rfl
theorem tw_2_31 : Cond.code yy_P_addIndent prog_4_method_8_code 3 (Option.none : Option FieldType) ∈ TB_ := TB_2 31 rfl rfl
theorem tw_2_33 : Cond.methodLink cn_P 35 yy_P_addText ∈ TB_ := TB_2 33 (by decide +kernel) rfl
theorem tw_2_35 : Cond.methodLink cn_W 81 yy_R_rowSize ∈ TB_ := TB_2 35 (by decide +kernel) rfl
theorem tw_2_36 : Cond.instanceMethod yy_R_rowSize ∈ TB_ := TB_2 36 (by decide +kernel) rfl
theorem tw_2_37 : Cond.selects cn_R yy_R_rowSize yy_R_rowSize ∈ TB_ := TB_2 37 (by decide +kernel) rfl
theorem tw_2_38 : Cond.code yy_R_rowSize prog_7_method_13_code 2 (Option.some FieldType.int) ∈ TB_ := TB_2 38 rfl rfl
theorem tw_2_39 : Cond.methodLink cn_R 41 yy_R_countInRow ∈ TB_ := TB_2 39 (by decide +kernel) rfl
theorem tw_2_41 : Cond.instanceMethod yy_R_countInRow ∈ TB_ := TB_2 41 (by decide +kernel) rfl
theorem tw_2_42 : Cond.code yy_R_countInRow prog_7_method_19_code 5 (Option.some FieldType.int) ∈ TB_ := TB_2 42 rfl rfl
theorem tw_2_43 : Cond.methodLink cn_W 84 yy_P_addNumber ∈ TB_ := TB_2 43 (by decide +kernel) rfl
theorem tw_2_44 : Cond.instanceMethod yy_P_addNumber ∈ TB_ := TB_2 44 (by decide +kernel) rfl
theorem tw_2_45 : Cond.selects cn_P yy_P_addNumber yy_P_addNumber ∈ TB_ := TB_2 45 (by decide +kernel) rfl
theorem tw_2_46 : Cond.code yy_P_addNumber prog_4_method_9_code 2 (Option.none : Option FieldType) ∈ TB_ := TB_2 46 rfl rfl
theorem tw_2_47 : Cond.methodLink cn_W 52 yy_W_writeVerdict ∈ TB_ := TB_2 47 (by decide +kernel) rfl
theorem tw_2_49 : Cond.instanceMethod yy_W_writeVerdict ∈ TB_ := TB_2 49 (by decide +kernel) rfl
theorem tw_2_50 : Cond.code yy_W_writeVerdict prog_6_method_7_code 3 (Option.none : Option FieldType) ∈ TB_ := TB_2 50 rfl rfl
theorem tw_2_51 : Cond.methodLink cn_W 100 yy_R_kindOf ∈ TB_ := TB_2 51 (by decide +kernel) rfl
theorem tw_2_52 : Cond.methodLink cn_W 87 yy_R_depthOf ∈ TB_ := TB_2 52 (by decide +kernel) rfl
theorem tw_2_53 : Cond.methodLink cn_W 103 yy_W_verdictOf ∈ TB_ := TB_2 53 (by decide +kernel) rfl
theorem tw_2_54 : Cond.static yy_W_verdictOf ∈ TB_ := TB_2 54 (by decide +kernel) rfl
theorem tw_2_55 : Cond.code yy_W_verdictOf prog_6_method_8_code 1 (Option.some (FieldType.object "java/lang/String")) ∈ TB_ := TB_2 55 rfl rfl
theorem tw_2_58 : Cond.methodLink cn_W 107 yy_R_placeOf ∈ TB_ := TB_2 58 (by decide +kernel) rfl
theorem tw_2_59 : Cond.instanceMethod yy_R_placeOf ∈ TB_ := TB_2 59 (by decide +kernel) rfl
theorem tw_2_6 : Cond.methodLink cn_P 29 yy_P_add ∈ TB_ := TB_2 6 (by decide +kernel) rfl
theorem tw_2_60 : Cond.selects cn_R yy_R_placeOf yy_R_placeOf ∈ TB_ := TB_2 60 (by decide +kernel) rfl
theorem tw_2_61 : Cond.code yy_R_placeOf prog_7_method_14_code 2 (Option.some FieldType.int) ∈ TB_ := TB_2 61 rfl rfl
theorem tw_2_63 : Cond.methodLink cn_W 92 yy_R_nameOf ∈ TB_ := TB_2 63 (by decide +kernel) rfl
theorem tw_2_64 : Cond.methodLink cn_W 96 yy_P_addWritten ∈ TB_ := TB_2 64 (by decide +kernel) rfl
theorem tw_2_65 : Cond.instanceMethod yy_P_addWritten ∈ TB_ := TB_2 65 (by decide +kernel) rfl
theorem tw_2_66 : Cond.selects cn_P yy_P_addWritten yy_P_addWritten ∈ TB_ := TB_2 66 (by decide +kernel) rfl
theorem tw_2_67 : Cond.code yy_P_addWritten prog_4_method_10_code 6 (Option.none : Option FieldType) ∈ TB_ := TB_2 67 rfl rfl
theorem tw_2_68 : Cond.methodLink cn_P 39 yy_N_sizeOf ∈ TB_ := TB_2 68 (by decide +kernel) rfl
theorem tw_2_69 : Cond.methodLink cn_P 45 yy_N_codeAt ∈ TB_ := TB_2 69 (by decide +kernel) rfl
theorem tw_2_7 : Cond.instanceMethod yy_P_add ∈ TB_ := TB_2 7 (by decide +kernel) rfl
theorem tw_2_70 : Cond.methodLink cn_W 112 yy_W_directiveOf ∈ TB_ := TB_2 70 (by decide +kernel) rfl
theorem tw_2_71 : Cond.static yy_W_directiveOf ∈ TB_ := TB_2 71 (by decide +kernel) rfl
theorem tw_2_72 : Cond.code yy_W_directiveOf prog_6_method_9_code 1 (Option.some (FieldType.object "java/lang/String")) ∈ TB_ := TB_2 72 rfl rfl
theorem tw_2_76 : Cond.methodLink cn_W 49 yy_R_isTest ∈ TB_ := TB_2 76 (by decide +kernel) rfl
theorem tw_2_77 : Cond.instanceMethod yy_R_isTest ∈ TB_ := TB_2 77 (by decide +kernel) rfl
theorem tw_2_78 : Cond.selects cn_R yy_R_isTest yy_R_isTest ∈ TB_ := TB_2 78 (by decide +kernel) rfl
theorem tw_2_79 : Cond.code yy_R_isTest prog_7_method_5_code 2 (Option.some FieldType.boolean) ∈ TB_ := TB_2 79 rfl rfl
theorem tw_2_8 : Cond.selects cn_P yy_P_add yy_P_add ∈ TB_ := TB_2 8 (by decide +kernel) rfl
theorem tw_2_80 : Cond.methodLink cn_W 56 yy_W_writeSubtest ∈ TB_ := TB_2 80 (by decide +kernel) rfl
theorem tw_2_82 : Cond.instanceMethod yy_W_writeSubtest ∈ TB_ := TB_2 82 (by decide +kernel) rfl
theorem tw_2_83 : Cond.code yy_W_writeSubtest prog_6_method_6_code 2 (Option.none : Option FieldType) ∈ TB_ := TB_2 83 rfl rfl
theorem tw_2_85 : Cond.methodLink cn_W 59 yy_R_innermost ∈ TB_ := TB_2 85 (by decide +kernel) rfl
theorem tw_2_86 : Cond.instanceMethod yy_R_innermost ∈ TB_ := TB_2 86 (by decide +kernel) rfl
theorem tw_2_87 : Cond.selects cn_R yy_R_innermost yy_R_innermost ∈ TB_ := TB_2 87 (by decide +kernel) rfl
theorem tw_2_88 : Cond.code yy_R_innermost prog_7_method_10_code 1 (Option.some FieldType.int) ∈ TB_ := TB_2 88 rfl rfl
theorem tw_2_89 : Cond.methodLink cn_W 62 yy_W_writeEnd ∈ TB_ := TB_2 89 (by decide +kernel) rfl
theorem tw_2_9 : Cond.code yy_P_add prog_4_method_4_code 2 (Option.some FieldType.boolean) ∈ TB_ := TB_2 9 rfl rfl
theorem tw_2_91 : Cond.instanceMethod yy_W_writeEnd ∈ TB_ := TB_2 91 (by decide +kernel) rfl
theorem tw_2_92 : Cond.code yy_W_writeEnd prog_6_method_4_code 1 (Option.none : Option FieldType) ∈ TB_ := TB_2 92 rfl rfl
theorem tw_2_93 : Cond.methodLink cn_W 68 yy_R_openSuites ∈ TB_ := TB_2 93 (by decide +kernel) rfl
theorem tw_2_94 : Cond.instanceMethod yy_R_openSuites ∈ TB_ := TB_2 94 (by decide +kernel) rfl
theorem tw_2_95 : Cond.selects cn_R yy_R_openSuites yy_R_openSuites ∈ TB_ := TB_2 95 (by decide +kernel) rfl
theorem tw_2_96 : Cond.code yy_R_openSuites prog_7_method_11_code 1 (Option.some FieldType.int) ∈ TB_ := TB_2 96 rfl rfl
theorem tw_2_98 : Cond.methodLink cn_V 85 yy_P_size ∈ TB_ := TB_2 98 (by decide +kernel) rfl
theorem tw_2_99 : Cond.instanceMethod yy_P_size ∈ TB_ := TB_2 99 (by decide +kernel) rfl
theorem tw_3_0 : Cond.selects cn_V yy_V_put yy_V_put ∈ TB_ := TB_3 0 (by decide +kernel) rfl
theorem tw_3_1 : Cond.code yy_V_put prog_1_method_15_code 2 (Option.some FieldType.boolean) ∈ TB_ := TB_3 1 rfl rfl
theorem tw_3_10 : Cond.methodLink cn_V 106 yy_P_replace ∈ TB_ := TB_3 10 (by decide +kernel) rfl
theorem tw_3_100 : Cond.selects cn_M yy_M_open yy_M_open ∈ TB_ := TB_3 100 (by decide +kernel) rfl
theorem tw_3_101 : Cond.code yy_M_open prog_9_method_9_code 2 (Option.some FieldType.int) ∈ TB_ := TB_3 101 rfl rfl
theorem tw_3_102 : Cond.methodLink cn_M 73 yy_M_innermost ∈ TB_ := TB_3 102 (by decide +kernel) rfl
theorem tw_3_104 : Cond.instanceMethod yy_M_innermost ∈ TB_ := TB_3 104 (by decide +kernel) rfl
theorem tw_3_105 : Cond.code yy_M_innermost prog_9_method_5_code 4 (Option.some FieldType.int) ∈ TB_ := TB_3 105 rfl rfl
theorem tw_3_106 : Cond.methodLink cn_M 81 yy_M_depthOf ∈ TB_ := TB_3 106 (by decide +kernel) rfl
theorem tw_3_108 : Cond.instanceMethod yy_M_depthOf ∈ TB_ := TB_3 108 (by decide +kernel) rfl
theorem tw_3_109 : Cond.code yy_M_depthOf prog_9_method_6_code 5 (Option.some FieldType.int) ∈ TB_ := TB_3 109 rfl rfl
theorem tw_3_11 : Cond.instanceMethod yy_P_replace ∈ TB_ := TB_3 11 (by decide +kernel) rfl
theorem tw_3_110 : Cond.methodLink cn_M 84 yy_M_addNamed ∈ TB_ := TB_3 110 (by decide +kernel) rfl
theorem tw_3_112 : Cond.instanceMethod yy_M_addNamed ∈ TB_ := TB_3 112 (by decide +kernel) rfl
theorem tw_3_113 : Cond.code yy_M_addNamed prog_9_method_8_code 4 (Option.some FieldType.int) ∈ TB_ := TB_3 113 rfl rfl
theorem tw_3_114 : Cond.methodLink cn_M 77 yy_M_grow ∈ TB_ := TB_3 114 (by decide +kernel) rfl
theorem tw_3_116 : Cond.instanceMethod yy_M_grow ∈ TB_ := TB_3 116 (by decide +kernel) rfl
theorem tw_3_117 : Cond.code yy_M_grow prog_9_method_7_code 5 (Option.some FieldType.int) ∈ TB_ := TB_3 117 rfl rfl
theorem tw_3_118 : Cond.methodLink cn_L 27 yy_M_close ∈ TB_ := TB_3 118 (by decide +kernel) rfl
theorem tw_3_119 : Cond.instanceMethod yy_M_close ∈ TB_ := TB_3 119 (by decide +kernel) rfl
theorem tw_3_12 : Cond.selects cn_P yy_P_replace yy_P_replace ∈ TB_ := TB_3 12 (by decide +kernel) rfl
theorem tw_3_120 : Cond.selects cn_M yy_M_close yy_M_close ∈ TB_ := TB_3 120 (by decide +kernel) rfl
theorem tw_3_121 : Cond.code yy_M_close prog_9_method_10_code 2 (Option.some FieldType.boolean) ∈ TB_ := TB_3 121 rfl rfl
theorem tw_3_122 : Cond.methodLink cn_L 32 yy_M_test ∈ TB_ := TB_3 122 (by decide +kernel) rfl
theorem tw_3_123 : Cond.instanceMethod yy_M_test ∈ TB_ := TB_3 123 (by decide +kernel) rfl
theorem tw_3_124 : Cond.selects cn_M yy_M_test yy_M_test ∈ TB_ := TB_3 124 (by decide +kernel) rfl
theorem tw_3_125 : Cond.code yy_M_test prog_9_method_11_code 2 (Option.some FieldType.int) ∈ TB_ := TB_3 125 rfl rfl
theorem tw_3_126 : Cond.methodLink cn_L 36 yy_M_reset ∈ TB_ := TB_3 126 (by decide +kernel) rfl
theorem tw_3_127 : Cond.instanceMethod yy_M_reset ∈ TB_ := TB_3 127 (by decide +kernel) rfl
theorem tw_3_128 : Cond.selects cn_M yy_M_reset yy_M_reset ∈ TB_ := TB_3 128 (by decide +kernel) rfl
theorem tw_3_129 : Cond.code yy_M_reset prog_9_method_12_code 1 (Option.none : Option FieldType) ∈ TB_ := TB_3 129 rfl rfl
theorem tw_3_13 : Cond.code yy_P_replace prog_4_method_5_code 3 (Option.some FieldType.boolean) ∈ TB_ := TB_3 13 rfl rfl
theorem tw_3_130 : Cond.methodLink cn_L 40 yy_M_nodes ∈ TB_ := TB_3 130 (by decide +kernel) rfl
theorem tw_3_131 : Cond.instanceMethod yy_M_nodes ∈ TB_ := TB_3 131 (by decide +kernel) rfl
theorem tw_3_132 : Cond.selects cn_M yy_M_nodes yy_M_nodes ∈ TB_ := TB_3 132 (by decide +kernel) rfl
theorem tw_3_133 : Cond.code yy_M_nodes prog_9_method_13_code 1 (Option.some FieldType.int) ∈ TB_ := TB_3 133 rfl rfl
theorem tw_3_134 : Cond.methodLink cn_L 44 yy_M_kind ∈ TB_ := TB_3 134 (by decide +kernel) rfl
theorem tw_3_135 : Cond.instanceMethod yy_M_kind ∈ TB_ := TB_3 135 (by decide +kernel) rfl
theorem tw_3_136 : Cond.selects cn_M yy_M_kind yy_M_kind ∈ TB_ := TB_3 136 (by decide +kernel) rfl
theorem tw_3_137 : Cond.code yy_M_kind prog_9_method_16_code 2 (Option.some FieldType.int) ∈ TB_ := TB_3 137 rfl rfl
theorem tw_3_138 : Cond.methodLink cn_M 87 yy_M_node ∈ TB_ := TB_3 138 (by decide +kernel) rfl
theorem tw_3_14 : Cond.methodLink cn_L 79 yy_V_cut ∈ TB_ := TB_3 14 (by decide +kernel) rfl
theorem tw_3_140 : Cond.instanceMethod yy_M_node ∈ TB_ := TB_3 140 (by decide +kernel) rfl
theorem tw_3_141 : Cond.code yy_M_node prog_9_method_14_code 2 (Option.some FieldType.boolean) ∈ TB_ := TB_3 141 rfl rfl
theorem tw_3_142 : Cond.methodLink cn_M 91 yy_M_good ∈ TB_ := TB_3 142 (by decide +kernel) rfl
theorem tw_3_144 : Cond.instanceMethod yy_M_good ∈ TB_ := TB_3 144 (by decide +kernel) rfl
theorem tw_3_145 : Cond.code yy_M_good prog_9_method_15_code 7 (Option.some FieldType.boolean) ∈ TB_ := TB_3 145 rfl rfl
theorem tw_3_146 : Cond.methodLink cn_L 48 yy_M_depth ∈ TB_ := TB_3 146 (by decide +kernel) rfl
theorem tw_3_147 : Cond.instanceMethod yy_M_depth ∈ TB_ := TB_3 147 (by decide +kernel) rfl
theorem tw_3_148 : Cond.selects cn_M yy_M_depth yy_M_depth ∈ TB_ := TB_3 148 (by decide +kernel) rfl
theorem tw_3_149 : Cond.code yy_M_depth prog_9_method_17_code 2 (Option.some FieldType.int) ∈ TB_ := TB_3 149 rfl rfl
theorem tw_3_15 : Cond.instanceMethod yy_V_cut ∈ TB_ := TB_3 15 (by decide +kernel) rfl
theorem tw_3_150 : Cond.methodLink cn_L 53 yy_M_name ∈ TB_ := TB_3 150 (by decide +kernel) rfl
theorem tw_3_151 : Cond.instanceMethod yy_M_name ∈ TB_ := TB_3 151 (by decide +kernel) rfl
theorem tw_3_152 : Cond.selects cn_M yy_M_name yy_M_name ∈ TB_ := TB_3 152 (by decide +kernel) rfl
theorem tw_3_153 : Cond.code yy_M_name prog_9_method_18_code 3 (Option.some FieldType.int) ∈ TB_ := TB_3 153 rfl rfl
theorem tw_3_154 : Cond.methodLink cn_L 57 yy_M_write ∈ TB_ := TB_3 154 (by decide +kernel) rfl
theorem tw_3_155 : Cond.instanceMethod yy_M_write ∈ TB_ := TB_3 155 (by decide +kernel) rfl
theorem tw_3_156 : Cond.selects cn_M yy_M_write yy_M_write ∈ TB_ := TB_3 156 (by decide +kernel) rfl
theorem tw_3_157 : Cond.code yy_M_write prog_9_method_28_code 3 (Option.some FieldType.int) ∈ TB_ := TB_3 157 rfl rfl
theorem tw_3_158 : Cond.methodLink cn_M 110 yy_M_addText ∈ TB_ := TB_3 158 (by decide +kernel) rfl
theorem tw_3_16 : Cond.selects cn_V yy_V_cut yy_V_cut ∈ TB_ := TB_3 16 (by decide +kernel) rfl
theorem tw_3_160 : Cond.instanceMethod yy_M_addText ∈ TB_ := TB_3 160 (by decide +kernel) rfl
theorem tw_3_161 : Cond.code yy_M_addText prog_9_method_22_code 3 (Option.none : Option FieldType) ∈ TB_ := TB_3 161 rfl rfl
theorem tw_3_162 : Cond.methodLink cn_M 98 yy_M_letterOf ∈ TB_ := TB_3 162 (by decide +kernel) rfl
theorem tw_3_163 : Cond.static yy_M_letterOf ∈ TB_ := TB_3 163 (by decide +kernel) rfl
theorem tw_3_164 : Cond.code yy_M_letterOf prog_9_method_3_code 4 (Option.some FieldType.char) ∈ TB_ := TB_3 164 rfl rfl
theorem tw_3_165 : Cond.methodLink cn_M 63 yy_M_part ∈ TB_ := TB_3 165 (by decide +kernel) rfl
theorem tw_3_166 : Cond.static yy_M_part ∈ TB_ := TB_3 166 (by decide +kernel) rfl
theorem tw_3_167 : Cond.code yy_M_part prog_9_method_2_code 2 (Option.some FieldType.long) ∈ TB_ := TB_3 167 rfl rfl
theorem tw_3_168 : Cond.constantLong cn_M 39 8318823019729404244 ∈ TB_ := TB_3 168 (by decide +kernel) rfl
theorem tw_3_169 : Cond.constantLong cn_M 41 57385602150249 ∈ TB_ := TB_3 169 (by decide +kernel) rfl
theorem tw_3_17 : Cond.code yy_V_cut prog_1_method_17_code 2 (Option.some FieldType.boolean) ∈ TB_ := TB_3 17 rfl rfl
theorem tw_3_170 : Cond.constantLong cn_M 43 2124655 ∈ TB_ := TB_3 170 (by decide +kernel) rfl
theorem tw_3_171 : Cond.constantLong cn_M 45 9125324284784494 ∈ TB_ := TB_3 171 (by decide +kernel) rfl
theorem tw_3_172 : Cond.constantLong cn_M 47 2108704 ∈ TB_ := TB_3 172 (by decide +kernel) rfl
theorem tw_3_173 : Cond.constantLong cn_M 49 22598586002842400 ∈ TB_ := TB_3 173 (by decide +kernel) rfl
theorem tw_3_174 : Cond.constantLong cn_M 51 22311630664639264 ∈ TB_ := TB_3 174 (by decide +kernel) rfl
theorem tw_3_175 : Cond.constantLong cn_M 53 8315180253233487907 ∈ TB_ := TB_3 175 (by decide +kernel) rfl
theorem tw_3_176 : Cond.constantLong cn_M 55 2112116 ∈ TB_ := TB_3 176 (by decide +kernel) rfl
theorem tw_3_177 : Cond.constantLong cn_M 57 3026481 ∈ TB_ := TB_3 177 (by decide +kernel) rfl
theorem tw_3_178 : Cond.constantLong cn_M 59 8391735665723269442 ∈ TB_ := TB_3 178 (by decide +kernel) rfl
theorem tw_3_179 : Cond.constantLong cn_M 61 33 ∈ TB_ := TB_3 179 (by decide +kernel) rfl
theorem tw_3_18 : Cond.methodLink cn_V 110 yy_P_shorten ∈ TB_ := TB_3 18 (by decide +kernel) rfl
theorem tw_3_180 : Cond.constantLong cn_M 67 255 ∈ TB_ := TB_3 180 (by decide +kernel) rfl
theorem tw_3_181 : Cond.methodLink cn_M 102 yy_M_add ∈ TB_ := TB_3 181 (by decide +kernel) rfl
theorem tw_3_183 : Cond.instanceMethod yy_M_add ∈ TB_ := TB_3 183 (by decide +kernel) rfl
theorem tw_3_184 : Cond.code yy_M_add prog_9_method_21_code 2 (Option.none : Option FieldType) ∈ TB_ := TB_3 184 rfl rfl
theorem tw_3_185 : Cond.methodLink cn_M 129 yy_M_finish ∈ TB_ := TB_3 185 (by decide +kernel) rfl
theorem tw_3_187 : Cond.instanceMethod yy_M_finish ∈ TB_ := TB_3 187 (by decide +kernel) rfl
theorem tw_3_188 : Cond.code yy_M_finish prog_9_method_27_code 2 (Option.none : Option FieldType) ∈ TB_ := TB_3 188 rfl rfl
theorem tw_3_189 : Cond.methodLink cn_M 106 yy_M_addSpaces ∈ TB_ := TB_3 189 (by decide +kernel) rfl
theorem tw_3_19 : Cond.methodLink cn_L 84 yy_V_attempts ∈ TB_ := TB_3 19 (by decide +kernel) rfl
theorem tw_3_191 : Cond.instanceMethod yy_M_addSpaces ∈ TB_ := TB_3 191 (by decide +kernel) rfl
theorem tw_3_192 : Cond.code yy_M_addSpaces prog_9_method_23_code 3 (Option.none : Option FieldType) ∈ TB_ := TB_3 192 rfl rfl
theorem tw_3_193 : Cond.methodLink cn_M 122 yy_M_rowSize ∈ TB_ := TB_3 193 (by decide +kernel) rfl
theorem tw_3_195 : Cond.instanceMethod yy_M_rowSize ∈ TB_ := TB_3 195 (by decide +kernel) rfl
theorem tw_3_196 : Cond.code yy_M_rowSize prog_9_method_20_code 5 (Option.some FieldType.int) ∈ TB_ := TB_3 196 rfl rfl
theorem tw_3_197 : Cond.methodLink cn_M 116 yy_M_addNumber ∈ TB_ := TB_3 197 (by decide +kernel) rfl
theorem tw_3_199 : Cond.instanceMethod yy_M_addNumber ∈ TB_ := TB_3 199 (by decide +kernel) rfl
theorem tw_3_2 : Cond.methodLink cn_V 100 yy_V_isOfPages ∈ TB_ := TB_3 2 (by decide +kernel) rfl
theorem tw_3_20 : Cond.instanceMethod yy_V_attempts ∈ TB_ := TB_3 20 (by decide +kernel) rfl
theorem tw_3_200 : Cond.code yy_M_addNumber prog_9_method_24_code 2 (Option.none : Option FieldType) ∈ TB_ := TB_3 200 rfl rfl
theorem tw_3_201 : Cond.methodLink cn_M 125 yy_M_addVerdict ∈ TB_ := TB_3 201 (by decide +kernel) rfl
theorem tw_3_203 : Cond.instanceMethod yy_M_addVerdict ∈ TB_ := TB_3 203 (by decide +kernel) rfl
theorem tw_3_204 : Cond.code yy_M_addVerdict prog_9_method_26_code 3 (Option.none : Option FieldType) ∈ TB_ := TB_3 204 rfl rfl
theorem tw_3_205 : Cond.methodLink cn_M 113 yy_M_placeOf ∈ TB_ := TB_3 205 (by decide +kernel) rfl
theorem tw_3_207 : Cond.instanceMethod yy_M_placeOf ∈ TB_ := TB_3 207 (by decide +kernel) rfl
theorem tw_3_208 : Cond.code yy_M_placeOf prog_9_method_19_code 5 (Option.some FieldType.int) ∈ TB_ := TB_3 208 rfl rfl
theorem tw_3_209 : Cond.methodLink cn_M 119 yy_M_addName ∈ TB_ := TB_3 209 (by decide +kernel) rfl
theorem tw_3_21 : Cond.selects cn_V yy_V_attempts yy_V_attempts ∈ TB_ := TB_3 21 (by decide +kernel) rfl
theorem tw_3_211 : Cond.instanceMethod yy_M_addName ∈ TB_ := TB_3 211 (by decide +kernel) rfl
theorem tw_3_212 : Cond.code yy_M_addName prog_9_method_25_code 4 (Option.none : Option FieldType) ∈ TB_ := TB_3 212 rfl rfl
theorem tw_3_213 : Cond.methodLink cn_L 61 yy_M_read ∈ TB_ := TB_3 213 (by decide +kernel) rfl
theorem tw_3_214 : Cond.instanceMethod yy_M_read ∈ TB_ := TB_3 214 (by decide +kernel) rfl
theorem tw_3_215 : Cond.selects cn_M yy_M_read yy_M_read ∈ TB_ := TB_3 215 (by decide +kernel) rfl
theorem tw_3_216 : Cond.code yy_M_read prog_9_method_44_code 4 (Option.some FieldType.int) ∈ TB_ := TB_3 216 rfl rfl
theorem tw_3_217 : Cond.methodLink cn_M 150 yy_M_eat ∈ TB_ := TB_3 217 (by decide +kernel) rfl
theorem tw_3_219 : Cond.instanceMethod yy_M_eat ∈ TB_ := TB_3 219 (by decide +kernel) rfl
theorem tw_3_22 : Cond.code yy_V_attempts prog_1_method_18_code 4 (Option.some FieldType.int) ∈ TB_ := TB_3 22 rfl rfl
theorem tw_3_220 : Cond.code yy_M_eat prog_9_method_29_code 4 (Option.some FieldType.boolean) ∈ TB_ := TB_3 220 rfl rfl
theorem tw_3_221 : Cond.methodLink cn_M 192 yy_M_line ∈ TB_ := TB_3 221 (by decide +kernel) rfl
theorem tw_3_223 : Cond.instanceMethod yy_M_line ∈ TB_ := TB_3 223 (by decide +kernel) rfl
theorem tw_3_224 : Cond.code yy_M_line prog_9_method_42_code 3 (Option.some FieldType.boolean) ∈ TB_ := TB_3 224 rfl rfl
theorem tw_3_225 : Cond.methodLink cn_M 176 yy_M_closing ∈ TB_ := TB_3 225 (by decide +kernel) rfl
theorem tw_3_227 : Cond.instanceMethod yy_M_closing ∈ TB_ := TB_3 227 (by decide +kernel) rfl
theorem tw_3_228 : Cond.code yy_M_closing prog_9_method_36_code 3 (Option.some FieldType.boolean) ∈ TB_ := TB_3 228 rfl rfl
theorem tw_3_229 : Cond.methodLink cn_M 147 yy_M_eatSpaces ∈ TB_ := TB_3 229 (by decide +kernel) rfl
theorem tw_3_23 : Cond.methodLink cn_V 113 yy_R_isTest ∈ TB_ := TB_3 23 (by decide +kernel) rfl
theorem tw_3_231 : Cond.instanceMethod yy_M_eatSpaces ∈ TB_ := TB_3 231 (by decide +kernel) rfl
theorem tw_3_232 : Cond.code yy_M_eatSpaces prog_9_method_30_code 3 (Option.some FieldType.boolean) ∈ TB_ := TB_3 232 rfl rfl
theorem tw_3_233 : Cond.methodLink cn_M 153 yy_M_eatNumber ∈ TB_ := TB_3 233 (by decide +kernel) rfl
theorem tw_3_235 : Cond.instanceMethod yy_M_eatNumber ∈ TB_ := TB_3 235 (by decide +kernel) rfl
theorem tw_3_236 : Cond.code yy_M_eatNumber prog_9_method_32_code 2 (Option.some FieldType.boolean) ∈ TB_ := TB_3 236 rfl rfl
theorem tw_3_237 : Cond.methodLink cn_M 138 yy_M_eatDigit ∈ TB_ := TB_3 237 (by decide +kernel) rfl
theorem tw_3_239 : Cond.instanceMethod yy_M_eatDigit ∈ TB_ := TB_3 239 (by decide +kernel) rfl
theorem tw_3_24 : Cond.methodLink cn_V 116 yy_R_areAttempts ∈ TB_ := TB_3 24 (by decide +kernel) rfl
theorem tw_3_25 : Cond.instanceMethod yy_R_areAttempts ∈ TB_ := TB_3 25 (by decide +kernel) rfl
theorem tw_3_26 : Cond.selects cn_R yy_R_areAttempts yy_R_areAttempts ∈ TB_ := TB_3 26 (by decide +kernel) rfl
theorem tw_3_27 : Cond.code yy_R_areAttempts prog_7_method_17_code 6 (Option.some FieldType.boolean) ∈ TB_ := TB_3 27 rfl rfl
theorem tw_3_28 : Cond.methodLink cn_R 48 yy_R_isTest ∈ TB_ := TB_3 28 (by decide +kernel) rfl
theorem tw_3_29 : Cond.methodLink cn_R 51 yy_R_nameOf ∈ TB_ := TB_3 29 (by decide +kernel) rfl
theorem tw_3_3 : Cond.static yy_V_isOfPages ∈ TB_ := TB_3 3 (by decide +kernel) rfl
theorem tw_3_30 : Cond.methodLink cn_R 55 yy_R_suiteOf ∈ TB_ := TB_3 30 (by decide +kernel) rfl
theorem tw_3_31 : Cond.methodLink cn_L 88 yy_V_flaky ∈ TB_ := TB_3 31 (by decide +kernel) rfl
theorem tw_3_32 : Cond.instanceMethod yy_V_flaky ∈ TB_ := TB_3 32 (by decide +kernel) rfl
theorem tw_3_33 : Cond.selects cn_V yy_V_flaky yy_V_flaky ∈ TB_ := TB_3 33 (by decide +kernel) rfl
theorem tw_3_34 : Cond.code yy_V_flaky prog_1_method_19_code 5 (Option.some FieldType.boolean) ∈ TB_ := TB_3 34 rfl rfl
theorem tw_3_35 : Cond.classLink cn_L 10 cn_M ∈ TB_ := TB_3 35 (by decide +kernel) rfl
theorem tw_3_36 : Cond.instantiable cn_M 17 ∈ TB_ := TB_3 36 (by decide +kernel) rfl
theorem tw_3_37 : Cond.methodLink cn_L 12 yy_M_init ∈ TB_ := TB_3 37 (by decide +kernel) rfl
theorem tw_3_38 : Cond.instanceMethod yy_M_init ∈ TB_ := TB_3 38 (by decide +kernel) rfl
theorem tw_3_39 : Cond.code yy_M_init prog_9_method_1_code 1 (Option.none : Option FieldType) ∈ TB_ := TB_3 39 rfl rfl
theorem tw_3_4 : Cond.code yy_V_isOfPages prog_1_method_22_code 1 (Option.some FieldType.boolean) ∈ TB_ := TB_3 4 rfl rfl
theorem tw_3_40 : Cond.methodLink cn_M 1 objectInit ∈ TB_ := TB_3 40 (by decide +kernel) rfl
theorem tw_3_41 : Cond.fieldLink cn_M 69 cn_M "begun" "I" ∈ TB_ := TB_3 41 (by decide +kernel) rfl
theorem tw_3_42 : Cond.fieldLink cn_M 7 cn_M "name" "[C" ∈ TB_ := TB_3 42 (by decide +kernel) rfl
theorem tw_3_43 : Cond.fieldLink cn_M 13 cn_M "count" "[I" ∈ TB_ := TB_3 43 (by decide +kernel) rfl
theorem tw_3_44 : Cond.fieldLink cn_M 17 cn_M "parent" "[I" ∈ TB_ := TB_3 44 (by decide +kernel) rfl
theorem tw_3_45 : Cond.fieldLink cn_M 20 cn_M "result" "[I" ∈ TB_ := TB_3 45 (by decide +kernel) rfl
theorem tw_3_46 : Cond.fieldLink cn_M 23 cn_M "closed" "[Z" ∈ TB_ := TB_3 46 (by decide +kernel) rfl
theorem tw_3_47 : Cond.fieldLink cn_M 27 cn_M "size" "[I" ∈ TB_ := TB_3 47 (by decide +kernel) rfl
theorem tw_3_48 : Cond.fieldLink cn_M 30 cn_M "letters" "[C" ∈ TB_ := TB_3 48 (by decide +kernel) rfl
theorem tw_3_49 : Cond.fieldLink cn_M 95 cn_M "length" "I" ∈ TB_ := TB_3 49 (by decide +kernel) rfl
theorem tw_3_5 : Cond.methodLink cn_V 103 yy_P_add ∈ TB_ := TB_3 5 (by decide +kernel) rfl
theorem tw_3_50 : Cond.fieldLink cn_M 33 cn_M "page" "[C" ∈ TB_ := TB_3 50 (by decide +kernel) rfl
theorem tw_3_51 : Cond.fieldLink cn_M 132 cn_M "at" "I" ∈ TB_ := TB_3 51 (by decide +kernel) rfl
theorem tw_3_52 : Cond.fieldLink cn_M 135 cn_M "end" "I" ∈ TB_ := TB_3 52 (by decide +kernel) rfl
theorem tw_3_53 : Cond.fieldLink cn_M 144 cn_M "suite" "I" ∈ TB_ := TB_3 53 (by decide +kernel) rfl
theorem tw_3_54 : Cond.fieldLink cn_M 162 cn_M "planned" "Z" ∈ TB_ := TB_3 54 (by decide +kernel) rfl
theorem tw_3_55 : Cond.fieldLink cn_M 166 cn_M "over" "Z" ∈ TB_ := TB_3 55 (by decide +kernel) rfl
theorem tw_3_56 : Cond.fieldLink cn_M 141 cn_M "taken" "I" ∈ TB_ := TB_3 56 (by decide +kernel) rfl
theorem tw_3_57 : Cond.fieldLink cn_M 36 cn_M "read" "[C" ∈ TB_ := TB_3 57 (by decide +kernel) rfl
theorem tw_3_58 : Cond.lays cn_M cn_M "begun" "I" ∈ TB_ := TB_3 58 (by decide +kernel) rfl
theorem tw_3_6 : Cond.methodLink cn_L 74 yy_V_poke ∈ TB_ := TB_3 6 (by decide +kernel) rfl
theorem tw_3_60 : Cond.laysFinal cn_M cn_M "name" "[C" ∈ TB_ := TB_3 60 (by decide +kernel) rfl
theorem tw_3_62 : Cond.laysFinal cn_M cn_M "count" "[I" ∈ TB_ := TB_3 62 (by decide +kernel) rfl
theorem tw_3_64 : Cond.laysFinal cn_M cn_M "parent" "[I" ∈ TB_ := TB_3 64 (by decide +kernel) rfl
theorem tw_3_66 : Cond.laysFinal cn_M cn_M "result" "[I" ∈ TB_ := TB_3 66 (by decide +kernel) rfl
theorem tw_3_68 : Cond.laysFinal cn_M cn_M "closed" "[Z" ∈ TB_ := TB_3 68 (by decide +kernel) rfl
theorem tw_3_7 : Cond.instanceMethod yy_V_poke ∈ TB_ := TB_3 7 (by decide +kernel) rfl
theorem tw_3_70 : Cond.laysFinal cn_M cn_M "size" "[I" ∈ TB_ := TB_3 70 (by decide +kernel) rfl
theorem tw_3_72 : Cond.laysFinal cn_M cn_M "letters" "[C" ∈ TB_ := TB_3 72 (by decide +kernel) rfl
theorem tw_3_74 : Cond.lays cn_M cn_M "length" "I" ∈ TB_ := TB_3 74 (by decide +kernel) rfl
theorem tw_3_76 : Cond.laysFinal cn_M cn_M "page" "[C" ∈ TB_ := TB_3 76 (by decide +kernel) rfl
theorem tw_3_78 : Cond.lays cn_M cn_M "at" "I" ∈ TB_ := TB_3 78 (by decide +kernel) rfl
theorem tw_3_8 : Cond.selects cn_V yy_V_poke yy_V_poke ∈ TB_ := TB_3 8 (by decide +kernel) rfl
theorem tw_3_80 : Cond.lays cn_M cn_M "end" "I" ∈ TB_ := TB_3 80 (by decide +kernel) rfl
theorem tw_3_82 : Cond.lays cn_M cn_M "suite" "I" ∈ TB_ := TB_3 82 (by decide +kernel) rfl
theorem tw_3_84 : Cond.lays cn_M cn_M "planned" "Z" ∈ TB_ := TB_3 84 (by decide +kernel) rfl
theorem tw_3_86 : Cond.lays cn_M cn_M "over" "Z" ∈ TB_ := TB_3 86 (by decide +kernel) rfl
theorem tw_3_88 : Cond.lays cn_M cn_M "taken" "I" ∈ TB_ := TB_3 88 (by decide +kernel) rfl
theorem tw_3_9 : Cond.code yy_V_poke prog_1_method_16_code 3 (Option.some FieldType.boolean) ∈ TB_ := TB_3 9 rfl rfl
theorem tw_3_90 : Cond.laysFinal cn_M cn_M "read" "[C" ∈ TB_ := TB_3 90 (by decide +kernel) rfl
theorem tw_3_93 : Cond.arrayClass FieldType.boolean ∈ TB_ := TB_3 93 (by decide +kernel) rfl
theorem tw_3_94 : Cond.methodLink cn_L 17 yy_M_letter ∈ TB_ := TB_3 94 (by decide +kernel) rfl
theorem tw_3_95 : Cond.instanceMethod yy_M_letter ∈ TB_ := TB_3 95 (by decide +kernel) rfl
theorem tw_3_96 : Cond.selects cn_M yy_M_letter yy_M_letter ∈ TB_ := TB_3 96 (by decide +kernel) rfl
theorem tw_3_97 : Cond.code yy_M_letter prog_9_method_4_code 2 (Option.some FieldType.boolean) ∈ TB_ := TB_3 97 rfl rfl
theorem tw_3_98 : Cond.methodLink cn_L 22 yy_M_open ∈ TB_ := TB_3 98 (by decide +kernel) rfl
theorem tw_3_99 : Cond.instanceMethod yy_M_open ∈ TB_ := TB_3 99 (by decide +kernel) rfl
theorem tw_4_0 : Cond.code yy_M_eatDigit prog_9_method_31_code 2 (Option.some FieldType.boolean) ∈ TB_ := TB_4 0 rfl rfl
theorem tw_4_1 : Cond.methodLink cn_M 156 yy_M_eatName ∈ TB_ := TB_4 1 (by decide +kernel) rfl
theorem tw_4_11 : Cond.instanceMethod yy_M_plan ∈ TB_ := TB_4 11 (by decide +kernel) rfl
theorem tw_4_12 : Cond.code yy_M_plan prog_9_method_37_code 3 (Option.some FieldType.boolean) ∈ TB_ := TB_4 12 rfl rfl
theorem tw_4_13 : Cond.methodLink cn_M 183 yy_M_bail ∈ TB_ := TB_4 13 (by decide +kernel) rfl
theorem tw_4_15 : Cond.instanceMethod yy_M_bail ∈ TB_ := TB_4 15 (by decide +kernel) rfl
theorem tw_4_16 : Cond.code yy_M_bail prog_9_method_38_code 2 (Option.some FieldType.boolean) ∈ TB_ := TB_4 16 rfl rfl
theorem tw_4_17 : Cond.methodLink cn_M 186 yy_M_subtest ∈ TB_ := TB_4 17 (by decide +kernel) rfl
theorem tw_4_19 : Cond.instanceMethod yy_M_subtest ∈ TB_ := TB_4 19 (by decide +kernel) rfl
theorem tw_4_20 : Cond.code yy_M_subtest prog_9_method_39_code 3 (Option.some FieldType.boolean) ∈ TB_ := TB_4 20 rfl rfl
theorem tw_4_21 : Cond.methodLink cn_M 169 yy_M_accept ∈ TB_ := TB_4 21 (by decide +kernel) rfl
theorem tw_4_23 : Cond.instanceMethod yy_M_accept ∈ TB_ := TB_4 23 (by decide +kernel) rfl
theorem tw_4_24 : Cond.code yy_M_accept prog_9_method_34_code 4 (Option.some FieldType.boolean) ∈ TB_ := TB_4 24 rfl rfl
theorem tw_4_25 : Cond.methodLink cn_M 189 yy_M_testLine ∈ TB_ := TB_4 25 (by decide +kernel) rfl
theorem tw_4_27 : Cond.instanceMethod yy_M_testLine ∈ TB_ := TB_4 27 (by decide +kernel) rfl
theorem tw_4_28 : Cond.code yy_M_testLine prog_9_method_41_code 6 (Option.some FieldType.boolean) ∈ TB_ := TB_4 28 rfl rfl
theorem tw_4_29 : Cond.methodLink cn_M 172 yy_M_endsWith ∈ TB_ := TB_4 29 (by decide +kernel) rfl
theorem tw_4_3 : Cond.instanceMethod yy_M_eatName ∈ TB_ := TB_4 3 (by decide +kernel) rfl
theorem tw_4_31 : Cond.instanceMethod yy_M_endsWith ∈ TB_ := TB_4 31 (by decide +kernel) rfl
theorem tw_4_32 : Cond.code yy_M_endsWith prog_9_method_40_code 6 (Option.some FieldType.boolean) ∈ TB_ := TB_4 32 rfl rfl
theorem tw_4_33 : Cond.methodLink cn_M 195 yy_M_adopt ∈ TB_ := TB_4 33 (by decide +kernel) rfl
theorem tw_4_35 : Cond.instanceMethod yy_M_adopt ∈ TB_ := TB_4 35 (by decide +kernel) rfl
theorem tw_4_36 : Cond.code yy_M_adopt prog_9_method_43_code 2 (Option.none : Option FieldType) ∈ TB_ := TB_4 36 rfl rfl
theorem tw_4_37 : Cond.methodLink cn_L 65 yy_M_length ∈ TB_ := TB_4 37 (by decide +kernel) rfl
theorem tw_4_38 : Cond.instanceMethod yy_M_length ∈ TB_ := TB_4 38 (by decide +kernel) rfl
theorem tw_4_39 : Cond.selects cn_M yy_M_length yy_M_length ∈ TB_ := TB_4 39 (by decide +kernel) rfl
theorem tw_4_4 : Cond.code yy_M_eatName prog_9_method_33_code 3 (Option.some FieldType.boolean) ∈ TB_ := TB_4 4 rfl rfl
theorem tw_4_40 : Cond.code yy_M_length prog_9_method_45_code 1 (Option.some FieldType.int) ∈ TB_ := TB_4 40 rfl rfl
theorem tw_4_41 : Cond.methodLink cn_L 69 yy_M_at ∈ TB_ := TB_4 41 (by decide +kernel) rfl
theorem tw_4_42 : Cond.instanceMethod yy_M_at ∈ TB_ := TB_4 42 (by decide +kernel) rfl
theorem tw_4_43 : Cond.selects cn_M yy_M_at yy_M_at ∈ TB_ := TB_4 43 (by decide +kernel) rfl
theorem tw_4_44 : Cond.code yy_M_at prog_9_method_46_code 2 (Option.some FieldType.int) ∈ TB_ := TB_4 44 rfl rfl
theorem tw_4_45 : Cond.methodLink cn_L 73 yy_M_put ∈ TB_ := TB_4 45 (by decide +kernel) rfl
theorem tw_4_46 : Cond.instanceMethod yy_M_put ∈ TB_ := TB_4 46 (by decide +kernel) rfl
theorem tw_4_47 : Cond.selects cn_M yy_M_put yy_M_put ∈ TB_ := TB_4 47 (by decide +kernel) rfl
theorem tw_4_48 : Cond.code yy_M_put prog_9_method_48_code 2 (Option.some FieldType.boolean) ∈ TB_ := TB_4 48 rfl rfl
theorem tw_4_49 : Cond.methodLink cn_M 198 yy_M_fits ∈ TB_ := TB_4 49 (by decide +kernel) rfl
theorem tw_4_5 : Cond.methodLink cn_M 159 yy_M_isName ∈ TB_ := TB_4 5 (by decide +kernel) rfl
theorem tw_4_50 : Cond.static yy_M_fits ∈ TB_ := TB_4 50 (by decide +kernel) rfl
theorem tw_4_51 : Cond.code yy_M_fits prog_9_method_47_code 1 (Option.some FieldType.boolean) ∈ TB_ := TB_4 51 rfl rfl
theorem tw_4_52 : Cond.methodLink cn_L 78 yy_M_poke ∈ TB_ := TB_4 52 (by decide +kernel) rfl
theorem tw_4_53 : Cond.instanceMethod yy_M_poke ∈ TB_ := TB_4 53 (by decide +kernel) rfl
theorem tw_4_54 : Cond.selects cn_M yy_M_poke yy_M_poke ∈ TB_ := TB_4 54 (by decide +kernel) rfl
theorem tw_4_55 : Cond.code yy_M_poke prog_9_method_49_code 3 (Option.some FieldType.boolean) ∈ TB_ := TB_4 55 rfl rfl
theorem tw_4_56 : Cond.methodLink cn_L 83 yy_M_cut ∈ TB_ := TB_4 56 (by decide +kernel) rfl
theorem tw_4_57 : Cond.instanceMethod yy_M_cut ∈ TB_ := TB_4 57 (by decide +kernel) rfl
theorem tw_4_58 : Cond.selects cn_M yy_M_cut yy_M_cut ∈ TB_ := TB_4 58 (by decide +kernel) rfl
theorem tw_4_59 : Cond.code yy_M_cut prog_9_method_50_code 2 (Option.some FieldType.boolean) ∈ TB_ := TB_4 59 rfl rfl
theorem tw_4_60 : Cond.methodLink cn_L 87 yy_M_attempts ∈ TB_ := TB_4 60 (by decide +kernel) rfl
theorem tw_4_61 : Cond.instanceMethod yy_M_attempts ∈ TB_ := TB_4 61 (by decide +kernel) rfl
theorem tw_4_62 : Cond.selects cn_M yy_M_attempts yy_M_attempts ∈ TB_ := TB_4 62 (by decide +kernel) rfl
theorem tw_4_63 : Cond.code yy_M_attempts prog_9_method_53_code 4 (Option.some FieldType.int) ∈ TB_ := TB_4 63 rfl rfl
theorem tw_4_64 : Cond.methodLink cn_M 205 yy_M_alike ∈ TB_ := TB_4 64 (by decide +kernel) rfl
theorem tw_4_66 : Cond.instanceMethod yy_M_alike ∈ TB_ := TB_4 66 (by decide +kernel) rfl
theorem tw_4_67 : Cond.code yy_M_alike prog_9_method_52_code 6 (Option.some FieldType.boolean) ∈ TB_ := TB_4 67 rfl rfl
theorem tw_4_68 : Cond.methodLink cn_M 202 yy_M_sameName ∈ TB_ := TB_4 68 (by decide +kernel) rfl
theorem tw_4_7 : Cond.instanceMethod yy_M_isName ∈ TB_ := TB_4 7 (by decide +kernel) rfl
theorem tw_4_70 : Cond.instanceMethod yy_M_sameName ∈ TB_ := TB_4 70 (by decide +kernel) rfl
theorem tw_4_71 : Cond.code yy_M_sameName prog_9_method_51_code 5 (Option.some FieldType.boolean) ∈ TB_ := TB_4 71 rfl rfl
theorem tw_4_72 : Cond.methodLink cn_L 91 yy_M_flaky ∈ TB_ := TB_4 72 (by decide +kernel) rfl
theorem tw_4_73 : Cond.instanceMethod yy_M_flaky ∈ TB_ := TB_4 73 (by decide +kernel) rfl
theorem tw_4_74 : Cond.selects cn_M yy_M_flaky yy_M_flaky ∈ TB_ := TB_4 74 (by decide +kernel) rfl
theorem tw_4_75 : Cond.code yy_M_flaky prog_9_method_54_code 6 (Option.some FieldType.boolean) ∈ TB_ := TB_4 75 rfl rfl
theorem tw_4_76 : Cond.fieldLink "java/lang/String" 9 "java/lang/String" "value" "[B" ∈ TB_ := TB_4 76 (by decide +kernel) rfl
theorem tw_4_77 : Cond.fieldLink "java/lang/String" 15 "java/lang/String" "coder" "B" ∈ TB_ := TB_4 77 (by decide +kernel) rfl
theorem tw_4_8 : Cond.code yy_M_isName prog_9_method_35_code 4 (Option.some FieldType.boolean) ∈ TB_ := TB_4 8 rfl rfl
theorem tw_4_9 : Cond.methodLink cn_M 180 yy_M_plan ∈ TB_ := TB_4 9 (by decide +kernel) rfl
theorem tw_p_0 : Cond.selects cn_V yy_V_addWithBegunName yy_V_addWithBegunName ∈ TB_ := TB_p (List.mem_of_getElem? (i := 0) (by decide +kernel)) rfl
theorem tw_p_1 : Cond.selects cn_R yy_R_hasFailedBehind yy_R_hasFailedBehind ∈ TB_ := TB_p (List.mem_of_getElem? (i := 1) (by decide +kernel)) rfl
theorem tw_p_10 : Cond.selects cn_C yy_C_skipDigit yy_C_skipDigit ∈ TB_ := TB_p (List.mem_of_getElem? (i := 10) (by decide +kernel)) rfl
theorem tw_p_11 : Cond.selects cn_C yy_C_takeLetter yy_C_takeLetter ∈ TB_ := TB_p (List.mem_of_getElem? (i := 11) (by decide +kernel)) rfl
theorem tw_p_12 : Cond.selects cn_E yy_E_takeTest yy_E_takeTest ∈ TB_ := TB_p (List.mem_of_getElem? (i := 12) (by decide +kernel)) rfl
theorem tw_p_13 : Cond.selects cn_E yy_E_takeSuiteEnd yy_E_takeSuiteEnd ∈ TB_ := TB_p (List.mem_of_getElem? (i := 13) (by decide +kernel)) rfl
theorem tw_p_14 : Cond.selects cn_M yy_M_innermost yy_M_innermost ∈ TB_ := TB_p (List.mem_of_getElem? (i := 14) (by decide +kernel)) rfl
theorem tw_p_15 : Cond.selects cn_M yy_M_depthOf yy_M_depthOf ∈ TB_ := TB_p (List.mem_of_getElem? (i := 15) (by decide +kernel)) rfl
theorem tw_p_16 : Cond.selects cn_M yy_M_addNamed yy_M_addNamed ∈ TB_ := TB_p (List.mem_of_getElem? (i := 16) (by decide +kernel)) rfl
theorem tw_p_17 : Cond.selects cn_M yy_M_grow yy_M_grow ∈ TB_ := TB_p (List.mem_of_getElem? (i := 17) (by decide +kernel)) rfl
theorem tw_p_18 : Cond.selects cn_M yy_M_node yy_M_node ∈ TB_ := TB_p (List.mem_of_getElem? (i := 18) (by decide +kernel)) rfl
theorem tw_p_19 : Cond.selects cn_M yy_M_good yy_M_good ∈ TB_ := TB_p (List.mem_of_getElem? (i := 19) (by decide +kernel)) rfl
theorem tw_p_2 : Cond.selects cn_W yy_W_endSuites yy_W_endSuites ∈ TB_ := TB_p (List.mem_of_getElem? (i := 2) (by decide +kernel)) rfl
theorem tw_p_20 : Cond.selects cn_M yy_M_addText yy_M_addText ∈ TB_ := TB_p (List.mem_of_getElem? (i := 20) (by decide +kernel)) rfl
theorem tw_p_21 : Cond.selects cn_M yy_M_add yy_M_add ∈ TB_ := TB_p (List.mem_of_getElem? (i := 21) (by decide +kernel)) rfl
theorem tw_p_22 : Cond.selects cn_M yy_M_finish yy_M_finish ∈ TB_ := TB_p (List.mem_of_getElem? (i := 22) (by decide +kernel)) rfl
theorem tw_p_23 : Cond.selects cn_M yy_M_addSpaces yy_M_addSpaces ∈ TB_ := TB_p (List.mem_of_getElem? (i := 23) (by decide +kernel)) rfl
theorem tw_p_24 : Cond.selects cn_M yy_M_rowSize yy_M_rowSize ∈ TB_ := TB_p (List.mem_of_getElem? (i := 24) (by decide +kernel)) rfl
theorem tw_p_25 : Cond.selects cn_M yy_M_addNumber yy_M_addNumber ∈ TB_ := TB_p (List.mem_of_getElem? (i := 25) (by decide +kernel)) rfl
theorem tw_p_26 : Cond.selects cn_M yy_M_addVerdict yy_M_addVerdict ∈ TB_ := TB_p (List.mem_of_getElem? (i := 26) (by decide +kernel)) rfl
theorem tw_p_27 : Cond.selects cn_M yy_M_placeOf yy_M_placeOf ∈ TB_ := TB_p (List.mem_of_getElem? (i := 27) (by decide +kernel)) rfl
theorem tw_p_28 : Cond.selects cn_M yy_M_addName yy_M_addName ∈ TB_ := TB_p (List.mem_of_getElem? (i := 28) (by decide +kernel)) rfl
theorem tw_p_29 : Cond.selects cn_M yy_M_eat yy_M_eat ∈ TB_ := TB_p (List.mem_of_getElem? (i := 29) (by decide +kernel)) rfl
theorem tw_p_3 : Cond.selects cn_W yy_W_writePlan yy_W_writePlan ∈ TB_ := TB_p (List.mem_of_getElem? (i := 3) (by decide +kernel)) rfl
theorem tw_p_30 : Cond.selects cn_M yy_M_line yy_M_line ∈ TB_ := TB_p (List.mem_of_getElem? (i := 30) (by decide +kernel)) rfl
theorem tw_p_31 : Cond.selects cn_M yy_M_closing yy_M_closing ∈ TB_ := TB_p (List.mem_of_getElem? (i := 31) (by decide +kernel)) rfl
theorem tw_p_32 : Cond.selects cn_M yy_M_eatSpaces yy_M_eatSpaces ∈ TB_ := TB_p (List.mem_of_getElem? (i := 32) (by decide +kernel)) rfl
theorem tw_p_33 : Cond.selects cn_M yy_M_eatNumber yy_M_eatNumber ∈ TB_ := TB_p (List.mem_of_getElem? (i := 33) (by decide +kernel)) rfl
theorem tw_p_34 : Cond.selects cn_M yy_M_eatDigit yy_M_eatDigit ∈ TB_ := TB_p (List.mem_of_getElem? (i := 34) (by decide +kernel)) rfl
theorem tw_p_35 : Cond.selects cn_M yy_M_eatName yy_M_eatName ∈ TB_ := TB_p (List.mem_of_getElem? (i := 35) (by decide +kernel)) rfl
theorem tw_p_36 : Cond.selects cn_M yy_M_isName yy_M_isName ∈ TB_ := TB_p (List.mem_of_getElem? (i := 36) (by decide +kernel)) rfl
theorem tw_p_37 : Cond.selects cn_M yy_M_plan yy_M_plan ∈ TB_ := TB_p (List.mem_of_getElem? (i := 37) (by decide +kernel)) rfl
theorem tw_p_38 : Cond.selects cn_M yy_M_bail yy_M_bail ∈ TB_ := TB_p (List.mem_of_getElem? (i := 38) (by decide +kernel)) rfl
theorem tw_p_39 : Cond.selects cn_M yy_M_subtest yy_M_subtest ∈ TB_ := TB_p (List.mem_of_getElem? (i := 39) (by decide +kernel)) rfl
theorem tw_p_4 : Cond.selects cn_R yy_R_countInRow yy_R_countInRow ∈ TB_ := TB_p (List.mem_of_getElem? (i := 4) (by decide +kernel)) rfl
theorem tw_p_40 : Cond.selects cn_M yy_M_accept yy_M_accept ∈ TB_ := TB_p (List.mem_of_getElem? (i := 40) (by decide +kernel)) rfl
theorem tw_p_41 : Cond.selects cn_M yy_M_testLine yy_M_testLine ∈ TB_ := TB_p (List.mem_of_getElem? (i := 41) (by decide +kernel)) rfl
theorem tw_p_42 : Cond.selects cn_M yy_M_endsWith yy_M_endsWith ∈ TB_ := TB_p (List.mem_of_getElem? (i := 42) (by decide +kernel)) rfl
theorem tw_p_43 : Cond.selects cn_M yy_M_adopt yy_M_adopt ∈ TB_ := TB_p (List.mem_of_getElem? (i := 43) (by decide +kernel)) rfl
theorem tw_p_44 : Cond.selects cn_M yy_M_alike yy_M_alike ∈ TB_ := TB_p (List.mem_of_getElem? (i := 44) (by decide +kernel)) rfl
theorem tw_p_45 : Cond.selects cn_M yy_M_sameName yy_M_sameName ∈ TB_ := TB_p (List.mem_of_getElem? (i := 45) (by decide +kernel)) rfl
theorem tw_p_5 : Cond.selects cn_W yy_W_writeVerdict yy_W_writeVerdict ∈ TB_ := TB_p (List.mem_of_getElem? (i := 5) (by decide +kernel)) rfl
theorem tw_p_6 : Cond.selects cn_W yy_W_writeSubtest yy_W_writeSubtest ∈ TB_ := TB_p (List.mem_of_getElem? (i := 6) (by decide +kernel)) rfl
theorem tw_p_7 : Cond.selects cn_W yy_W_writeEnd yy_W_writeEnd ∈ TB_ := TB_p (List.mem_of_getElem? (i := 7) (by decide +kernel)) rfl
theorem tw_p_8 : Cond.selects cn_E yy_E_takeLine yy_E_takeLine ∈ TB_ := TB_p (List.mem_of_getElem? (i := 8) (by decide +kernel)) rfl
theorem tw_p_9 : Cond.selects cn_E yy_E_takeRowLine yy_E_takeRowLine ∈ TB_ := TB_p (List.mem_of_getElem? (i := 9) (by decide +kernel)) rfl
theorem in_R : ∀ w ∈ u_ws cn_R tt_R 7, w ∈ TB_ := by
  intro w h
  obtain ⟨k, hk, rfl⟩ := List.mem_map.mp h
  have hk := List.mem_range.mp hk
  rcases (show k = 0 ∨ k = 1 ∨ k = 2 ∨ k = 3 ∨ k = 4 ∨ k = 5 ∨ k = 6 by omega) with rfl | rfl | rfl | rfl | rfl | rfl | rfl
  · exact tw_1_48
  · exact tw_1_50
  · exact tw_1_52
  · exact tw_1_54
  · exact tw_1_56
  · exact tw_1_58
  · exact tw_1_60
theorem in_P : ∀ w ∈ u_ws cn_P tt_P 2, w ∈ TB_ := by
  intro w h
  obtain ⟨k, hk, rfl⟩ := List.mem_map.mp h
  have hk := List.mem_range.mp hk
  rcases (show k = 0 ∨ k = 1 by omega) with rfl | rfl
  · exact tw_1_29
  · exact tw_1_31
theorem in_W : ∀ w ∈ u_ws cn_W tt_W 2, w ∈ TB_ := by
  intro w h
  obtain ⟨k, hk, rfl⟩ := List.mem_map.mp h
  have hk := List.mem_range.mp hk
  rcases (show k = 0 ∨ k = 1 by omega) with rfl | rfl
  · exact tw_1_180
  · exact tw_1_182
theorem in_C : ∀ w ∈ u_ws cn_C tt_C 4, w ∈ TB_ := by
  intro w h
  obtain ⟨k, hk, rfl⟩ := List.mem_map.mp h
  have hk := List.mem_range.mp hk
  rcases (show k = 0 ∨ k = 1 ∨ k = 2 ∨ k = 3 by omega) with rfl | rfl | rfl | rfl
  · exact tw_2_123
  · exact tw_2_125
  · exact tw_2_127
  · exact tw_2_129
theorem in_E : ∀ w ∈ u_ws cn_E tt_E 3, w ∈ TB_ := by
  intro w h
  obtain ⟨k, hk, rfl⟩ := List.mem_map.mp h
  have hk := List.mem_range.mp hk
  rcases (show k = 0 ∨ k = 1 ∨ k = 2 by omega) with rfl | rfl | rfl
  · exact tw_2_139
  · exact tw_2_141
  · exact tw_2_143
theorem in_V : ∀ w ∈ u_ws cn_V tt_V 4, w ∈ TB_ := by
  intro w h
  obtain ⟨k, hk, rfl⟩ := List.mem_map.mp h
  have hk := List.mem_range.mp hk
  rcases (show k = 0 ∨ k = 1 ∨ k = 2 ∨ k = 3 by omega) with rfl | rfl | rfl | rfl
  · exact tw_1_69
  · exact tw_1_71
  · exact tw_1_73
  · exact tw_1_75
theorem in_M : ∀ w ∈ u_ws cn_M tt_M 17, w ∈ TB_ := by
  intro w h
  obtain ⟨k, hk, rfl⟩ := List.mem_map.mp h
  have hk := List.mem_range.mp hk
  rcases (show k = 0 ∨ k = 1 ∨ k = 2 ∨ k = 3 ∨ k = 4 ∨ k = 5 ∨ k = 6 ∨ k = 7 ∨ k = 8 ∨ k = 9 ∨ k = 10 ∨ k = 11 ∨ k = 12 ∨ k = 13 ∨ k = 14 ∨ k = 15 ∨ k = 16 by omega) with rfl | rfl | rfl | rfl | rfl | rfl | rfl | rfl | rfl | rfl | rfl | rfl | rfl | rfl | rfl | rfl | rfl
  · exact tw_3_58
  · exact tw_3_60
  · exact tw_3_62
  · exact tw_3_64
  · exact tw_3_66
  · exact tw_3_68
  · exact tw_3_70
  · exact tw_3_72
  · exact tw_3_74
  · exact tw_3_76
  · exact tw_3_78
  · exact tw_3_80
  · exact tw_3_82
  · exact tw_3_84
  · exact tw_3_86
  · exact tw_3_88
  · exact tw_3_90
end
section
theorem dd_C_init_0 : decode cc_C_init 0 = .ok (.aload_n 0, 1) := by decide +kernel
theorem dd_C_init_1 : decode cc_C_init 1 = .ok (.invokespecial 3, 3) := by decide +kernel
theorem dd_C_init_4 : decode cc_C_init 4 = .ok (.aload_n 0, 1) := by decide +kernel
theorem dd_C_init_5 : decode cc_C_init 5 = .ok (.iconst 0, 1) := by decide +kernel
theorem dd_C_init_6 : decode cc_C_init 6 = .ok (.putfield 9, 3) := by decide +kernel
theorem dd_C_init_9 : decode cc_C_init 9 = .ok (.aload_n 0, 1) := by decide +kernel
theorem dd_C_init_10 : decode cc_C_init 10 = .ok (.iconst (-1), 1) := by decide +kernel
theorem dd_C_init_11 : decode cc_C_init 11 = .ok (.putfield 15, 3) := by decide +kernel
theorem dd_C_init_14 : decode cc_C_init 14 = .ok (.aload_n 0, 1) := by decide +kernel
theorem dd_C_init_15 : decode cc_C_init 15 = .ok (.aload_n 1, 1) := by decide +kernel
theorem dd_C_init_16 : decode cc_C_init 16 = .ok (.putfield 18, 3) := by decide +kernel
theorem dd_C_init_19 : decode cc_C_init 19 = .ok (.aload_n 0, 1) := by decide +kernel
theorem dd_C_init_20 : decode cc_C_init 20 = .ok (.iload_n 2, 1) := by decide +kernel
theorem dd_C_init_21 : decode cc_C_init 21 = .ok (.putfield 22, 3) := by decide +kernel
theorem dd_C_init_24 : decode cc_C_init 24 = .ok (.return_, 1) := by decide +kernel
theorem dd_C_isBehindLastLine_0 : decode cc_C_isBehindLastLine 0 = .ok (.aload_n 0, 1) := by decide +kernel
theorem dd_C_isBehindLastLine_1 : decode cc_C_isBehindLastLine 1 = .ok (.getfield 15, 3) := by decide +kernel
theorem dd_C_isBehindLastLine_4 : decode cc_C_isBehindLastLine 4 = .ok (.iconst 1, 1) := by decide +kernel
theorem dd_C_isBehindLastLine_5 : decode cc_C_isBehindLastLine 5 = .ok (.iadd, 1) := by decide +kernel
theorem dd_C_isBehindLastLine_6 : decode cc_C_isBehindLastLine 6 = .ok (.aload_n 0, 1) := by decide +kernel
theorem dd_C_isBehindLastLine_7 : decode cc_C_isBehindLastLine 7 = .ok (.getfield 22, 3) := by decide +kernel
theorem dd_C_isBehindLastLine_10 : decode cc_C_isBehindLastLine 10 = .ok (.if_icmp .lt 7, 3) := by decide +kernel
theorem dd_C_isBehindLastLine_13 : decode cc_C_isBehindLastLine 13 = .ok (.iconst 1, 1) := by decide +kernel
theorem dd_C_isBehindLastLine_14 : decode cc_C_isBehindLastLine 14 = .ok (.goto 4, 3) := by decide +kernel
theorem dd_C_isBehindLastLine_17 : decode cc_C_isBehindLastLine 17 = .ok (.iconst 0, 1) := by decide +kernel
theorem dd_C_isBehindLastLine_18 : decode cc_C_isBehindLastLine 18 = .ok (.ireturn, 1) := by decide +kernel
theorem dd_C_goToNextLine_0 : decode cc_C_goToNextLine 0 = .ok (.aload_n 0, 1) := by decide +kernel
theorem dd_C_goToNextLine_1 : decode cc_C_goToNextLine 1 = .ok (.aload_n 0, 1) := by decide +kernel
theorem dd_C_goToNextLine_2 : decode cc_C_goToNextLine 2 = .ok (.getfield 15, 3) := by decide +kernel
theorem dd_C_goToNextLine_5 : decode cc_C_goToNextLine 5 = .ok (.iconst 1, 1) := by decide +kernel
theorem dd_C_goToNextLine_6 : decode cc_C_goToNextLine 6 = .ok (.iadd, 1) := by decide +kernel
theorem dd_C_goToNextLine_7 : decode cc_C_goToNextLine 7 = .ok (.putfield 9, 3) := by decide +kernel
theorem dd_C_goToNextLine_10 : decode cc_C_goToNextLine 10 = .ok (.aload_n 0, 1) := by decide +kernel
theorem dd_C_goToNextLine_11 : decode cc_C_goToNextLine 11 = .ok (.getfield 9, 3) := by decide +kernel
theorem dd_C_goToNextLine_14 : decode cc_C_goToNextLine 14 = .ok (.istore_n 1, 1) := by decide +kernel
theorem dd_C_goToNextLine_15 : decode cc_C_goToNextLine 15 = .ok (.iload_n 1, 1) := by decide +kernel
theorem dd_C_goToNextLine_16 : decode cc_C_goToNextLine 16 = .ok (.aload_n 0, 1) := by decide +kernel
theorem dd_C_goToNextLine_17 : decode cc_C_goToNextLine 17 = .ok (.getfield 22, 3) := by decide +kernel
theorem dd_C_goToNextLine_20 : decode cc_C_goToNextLine 20 = .ok (.if_icmp .ge 27, 3) := by decide +kernel
theorem dd_C_goToNextLine_23 : decode cc_C_goToNextLine 23 = .ok (.aload_n 0, 1) := by decide +kernel
theorem dd_C_goToNextLine_24 : decode cc_C_goToNextLine 24 = .ok (.getfield 18, 3) := by decide +kernel
theorem dd_C_goToNextLine_27 : decode cc_C_goToNextLine 27 = .ok (.iload_n 1, 1) := by decide +kernel
theorem dd_C_goToNextLine_28 : decode cc_C_goToNextLine 28 = .ok (.caload, 1) := by decide +kernel
theorem dd_C_goToNextLine_29 : decode cc_C_goToNextLine 29 = .ok (.bipush 10, 2) := by decide +kernel
theorem dd_C_goToNextLine_31 : decode cc_C_goToNextLine 31 = .ok (.if_icmp .ne 10, 3) := by decide +kernel
theorem dd_C_goToNextLine_34 : decode cc_C_goToNextLine 34 = .ok (.aload_n 0, 1) := by decide +kernel
theorem dd_C_goToNextLine_35 : decode cc_C_goToNextLine 35 = .ok (.iload_n 1, 1) := by decide +kernel
theorem dd_C_goToNextLine_36 : decode cc_C_goToNextLine 36 = .ok (.putfield 15, 3) := by decide +kernel
theorem dd_C_goToNextLine_39 : decode cc_C_goToNextLine 39 = .ok (.iconst 1, 1) := by decide +kernel
theorem dd_C_goToNextLine_40 : decode cc_C_goToNextLine 40 = .ok (.ireturn, 1) := by decide +kernel
theorem dd_C_goToNextLine_41 : decode cc_C_goToNextLine 41 = .ok (.iinc 1 1, 3) := by decide +kernel
theorem dd_C_goToNextLine_44 : decode cc_C_goToNextLine 44 = .ok (.goto (-29), 3) := by decide +kernel
theorem dd_C_goToNextLine_47 : decode cc_C_goToNextLine 47 = .ok (.aload_n 0, 1) := by decide +kernel
theorem dd_C_goToNextLine_48 : decode cc_C_goToNextLine 48 = .ok (.aload_n 0, 1) := by decide +kernel
theorem dd_C_goToNextLine_49 : decode cc_C_goToNextLine 49 = .ok (.getfield 22, 3) := by decide +kernel
theorem dd_C_goToNextLine_52 : decode cc_C_goToNextLine 52 = .ok (.putfield 15, 3) := by decide +kernel
theorem dd_C_goToNextLine_55 : decode cc_C_goToNextLine 55 = .ok (.iconst 0, 1) := by decide +kernel
theorem dd_C_goToNextLine_56 : decode cc_C_goToNextLine 56 = .ok (.ireturn, 1) := by decide +kernel
theorem dd_C_isAtLineEnd_0 : decode cc_C_isAtLineEnd 0 = .ok (.aload_n 0, 1) := by decide +kernel
theorem dd_C_isAtLineEnd_1 : decode cc_C_isAtLineEnd 1 = .ok (.getfield 9, 3) := by decide +kernel
theorem dd_C_isAtLineEnd_4 : decode cc_C_isAtLineEnd 4 = .ok (.aload_n 0, 1) := by decide +kernel
theorem dd_C_isAtLineEnd_5 : decode cc_C_isAtLineEnd 5 = .ok (.getfield 15, 3) := by decide +kernel
theorem dd_C_isAtLineEnd_8 : decode cc_C_isAtLineEnd 8 = .ok (.if_icmp .ne 7, 3) := by decide +kernel
theorem dd_C_isAtLineEnd_11 : decode cc_C_isAtLineEnd 11 = .ok (.iconst 1, 1) := by decide +kernel
theorem dd_C_isAtLineEnd_12 : decode cc_C_isAtLineEnd 12 = .ok (.goto 4, 3) := by decide +kernel
theorem dd_C_isAtLineEnd_15 : decode cc_C_isAtLineEnd 15 = .ok (.iconst 0, 1) := by decide +kernel
theorem dd_C_isAtLineEnd_16 : decode cc_C_isAtLineEnd 16 = .ok (.ireturn, 1) := by decide +kernel
theorem dd_C_skipText_0 : decode cc_C_skipText 0 = .ok (.aload_n 1, 1) := by decide +kernel
theorem dd_C_skipText_1 : decode cc_C_skipText 1 = .ok (.invokevirtual 25, 3) := by decide +kernel
theorem dd_C_skipText_4 : decode cc_C_skipText 4 = .ok (.aload_n 0, 1) := by decide +kernel
theorem dd_C_skipText_5 : decode cc_C_skipText 5 = .ok (.getfield 15, 3) := by decide +kernel
theorem dd_C_skipText_8 : decode cc_C_skipText 8 = .ok (.aload_n 0, 1) := by decide +kernel
theorem dd_C_skipText_9 : decode cc_C_skipText 9 = .ok (.getfield 9, 3) := by decide +kernel
theorem dd_C_skipText_12 : decode cc_C_skipText 12 = .ok (.isub, 1) := by decide +kernel
theorem dd_C_skipText_13 : decode cc_C_skipText 13 = .ok (.if_icmp .le 5, 3) := by decide +kernel
theorem dd_C_skipText_16 : decode cc_C_skipText 16 = .ok (.iconst 0, 1) := by decide +kernel
theorem dd_C_skipText_17 : decode cc_C_skipText 17 = .ok (.ireturn, 1) := by decide +kernel
theorem dd_C_skipText_18 : decode cc_C_skipText 18 = .ok (.iconst 0, 1) := by decide +kernel
theorem dd_C_skipText_19 : decode cc_C_skipText 19 = .ok (.istore_n 2, 1) := by decide +kernel
theorem dd_C_skipText_20 : decode cc_C_skipText 20 = .ok (.iload_n 2, 1) := by decide +kernel
theorem dd_C_skipText_21 : decode cc_C_skipText 21 = .ok (.aload_n 1, 1) := by decide +kernel
theorem dd_C_skipText_22 : decode cc_C_skipText 22 = .ok (.invokevirtual 25, 3) := by decide +kernel
theorem dd_C_skipText_25 : decode cc_C_skipText 25 = .ok (.if_icmp .ge 30, 3) := by decide +kernel
theorem dd_C_skipText_28 : decode cc_C_skipText 28 = .ok (.aload_n 0, 1) := by decide +kernel
theorem dd_C_skipText_29 : decode cc_C_skipText 29 = .ok (.getfield 18, 3) := by decide +kernel
theorem dd_C_skipText_32 : decode cc_C_skipText 32 = .ok (.aload_n 0, 1) := by decide +kernel
theorem dd_C_skipText_33 : decode cc_C_skipText 33 = .ok (.getfield 9, 3) := by decide +kernel
theorem dd_C_skipText_36 : decode cc_C_skipText 36 = .ok (.iload_n 2, 1) := by decide +kernel
theorem dd_C_skipText_37 : decode cc_C_skipText 37 = .ok (.iadd, 1) := by decide +kernel
theorem dd_C_skipText_38 : decode cc_C_skipText 38 = .ok (.caload, 1) := by decide +kernel
theorem dd_C_skipText_39 : decode cc_C_skipText 39 = .ok (.aload_n 1, 1) := by decide +kernel
theorem dd_C_skipText_40 : decode cc_C_skipText 40 = .ok (.iload_n 2, 1) := by decide +kernel
theorem dd_C_skipText_41 : decode cc_C_skipText 41 = .ok (.invokevirtual 31, 3) := by decide +kernel
theorem dd_C_skipText_44 : decode cc_C_skipText 44 = .ok (.if_icmp .eq 5, 3) := by decide +kernel
theorem dd_C_skipText_47 : decode cc_C_skipText 47 = .ok (.iconst 0, 1) := by decide +kernel
theorem dd_C_skipText_48 : decode cc_C_skipText 48 = .ok (.ireturn, 1) := by decide +kernel
theorem dd_C_skipText_49 : decode cc_C_skipText 49 = .ok (.iinc 2 1, 3) := by decide +kernel
theorem dd_C_skipText_52 : decode cc_C_skipText 52 = .ok (.goto (-32), 3) := by decide +kernel
theorem dd_C_skipText_55 : decode cc_C_skipText 55 = .ok (.aload_n 0, 1) := by decide +kernel
theorem dd_C_skipText_56 : decode cc_C_skipText 56 = .ok (.dup, 1) := by decide +kernel
theorem dd_C_skipText_57 : decode cc_C_skipText 57 = .ok (.getfield 9, 3) := by decide +kernel
theorem dd_C_skipText_60 : decode cc_C_skipText 60 = .ok (.aload_n 1, 1) := by decide +kernel
theorem dd_C_skipText_61 : decode cc_C_skipText 61 = .ok (.invokevirtual 25, 3) := by decide +kernel
theorem dd_C_skipText_64 : decode cc_C_skipText 64 = .ok (.iadd, 1) := by decide +kernel
theorem dd_C_skipText_65 : decode cc_C_skipText 65 = .ok (.putfield 9, 3) := by decide +kernel
theorem dd_C_skipText_68 : decode cc_C_skipText 68 = .ok (.iconst 1, 1) := by decide +kernel
theorem dd_C_skipText_69 : decode cc_C_skipText 69 = .ok (.ireturn, 1) := by decide +kernel
theorem dd_C_skipIndent_0 : decode cc_C_skipIndent 0 = .ok (.iconst 0, 1) := by decide +kernel
theorem dd_C_skipIndent_1 : decode cc_C_skipIndent 1 = .ok (.istore_n 2, 1) := by decide +kernel
theorem dd_C_skipIndent_2 : decode cc_C_skipIndent 2 = .ok (.iload_n 2, 1) := by decide +kernel
theorem dd_C_skipIndent_3 : decode cc_C_skipIndent 3 = .ok (.iload_n 1, 1) := by decide +kernel
theorem dd_C_skipIndent_4 : decode cc_C_skipIndent 4 = .ok (.if_icmp .ge 20, 3) := by decide +kernel
theorem dd_C_skipIndent_7 : decode cc_C_skipIndent 7 = .ok (.aload_n 0, 1) := by decide +kernel
theorem dd_C_skipIndent_8 : decode cc_C_skipIndent 8 = .ok (.ldc 35, 2) := by decide +kernel
theorem dd_C_skipIndent_10 : decode cc_C_skipIndent 10 = .ok (.invokevirtual 37, 3) := by decide +kernel
theorem dd_C_skipIndent_13 : decode cc_C_skipIndent 13 = .ok (.ifCond .ne 5, 3) := by decide +kernel
theorem dd_C_skipIndent_16 : decode cc_C_skipIndent 16 = .ok (.iconst 0, 1) := by decide +kernel
theorem dd_C_skipIndent_17 : decode cc_C_skipIndent 17 = .ok (.ireturn, 1) := by decide +kernel
theorem dd_C_skipIndent_18 : decode cc_C_skipIndent 18 = .ok (.iinc 2 1, 3) := by decide +kernel
theorem dd_C_skipIndent_21 : decode cc_C_skipIndent 21 = .ok (.goto (-19), 3) := by decide +kernel
theorem dd_C_skipIndent_24 : decode cc_C_skipIndent 24 = .ok (.iconst 1, 1) := by decide +kernel
theorem dd_C_skipIndent_25 : decode cc_C_skipIndent 25 = .ok (.ireturn, 1) := by decide +kernel
theorem dd_C_takeLetter_0 : decode cc_C_takeLetter 0 = .ok (.aload_n 0, 1) := by decide +kernel
theorem dd_C_takeLetter_1 : decode cc_C_takeLetter 1 = .ok (.getfield 9, 3) := by decide +kernel
theorem dd_C_takeLetter_4 : decode cc_C_takeLetter 4 = .ok (.aload_n 0, 1) := by decide +kernel
theorem dd_C_takeLetter_5 : decode cc_C_takeLetter 5 = .ok (.getfield 15, 3) := by decide +kernel
theorem dd_C_takeLetter_8 : decode cc_C_takeLetter 8 = .ok (.if_icmp .ge 15, 3) := by decide +kernel
theorem dd_C_takeLetter_11 : decode cc_C_takeLetter 11 = .ok (.aload_n 0, 1) := by decide +kernel
theorem dd_C_takeLetter_12 : decode cc_C_takeLetter 12 = .ok (.getfield 18, 3) := by decide +kernel
theorem dd_C_takeLetter_15 : decode cc_C_takeLetter 15 = .ok (.aload_n 0, 1) := by decide +kernel
theorem dd_C_takeLetter_16 : decode cc_C_takeLetter 16 = .ok (.getfield 9, 3) := by decide +kernel
theorem dd_C_takeLetter_19 : decode cc_C_takeLetter 19 = .ok (.caload, 1) := by decide +kernel
theorem dd_C_takeLetter_20 : decode cc_C_takeLetter 20 = .ok (.goto 4, 3) := by decide +kernel
theorem dd_C_takeLetter_23 : decode cc_C_takeLetter 23 = .ok (.iconst 0, 1) := by decide +kernel
theorem dd_C_takeLetter_24 : decode cc_C_takeLetter 24 = .ok (.istore_n 1, 1) := by decide +kernel
theorem dd_C_takeLetter_25 : decode cc_C_takeLetter 25 = .ok (.aload_n 0, 1) := by decide +kernel
theorem dd_C_takeLetter_26 : decode cc_C_takeLetter 26 = .ok (.getfield 9, 3) := by decide +kernel
theorem dd_C_takeLetter_29 : decode cc_C_takeLetter 29 = .ok (.iconst 1, 1) := by decide +kernel
theorem dd_C_takeLetter_30 : decode cc_C_takeLetter 30 = .ok (.iadd, 1) := by decide +kernel
theorem dd_C_takeLetter_31 : decode cc_C_takeLetter 31 = .ok (.aload_n 0, 1) := by decide +kernel
theorem dd_C_takeLetter_32 : decode cc_C_takeLetter 32 = .ok (.getfield 15, 3) := by decide +kernel
theorem dd_C_takeLetter_35 : decode cc_C_takeLetter 35 = .ok (.if_icmp .ge 17, 3) := by decide +kernel
theorem dd_C_takeLetter_38 : decode cc_C_takeLetter 38 = .ok (.aload_n 0, 1) := by decide +kernel
theorem dd_C_takeLetter_39 : decode cc_C_takeLetter 39 = .ok (.getfield 18, 3) := by decide +kernel
theorem dd_C_takeLetter_42 : decode cc_C_takeLetter 42 = .ok (.aload_n 0, 1) := by decide +kernel
theorem dd_C_takeLetter_43 : decode cc_C_takeLetter 43 = .ok (.getfield 9, 3) := by decide +kernel
theorem dd_C_takeLetter_46 : decode cc_C_takeLetter 46 = .ok (.iconst 1, 1) := by decide +kernel
theorem dd_C_takeLetter_47 : decode cc_C_takeLetter 47 = .ok (.iadd, 1) := by decide +kernel
theorem dd_C_takeLetter_48 : decode cc_C_takeLetter 48 = .ok (.caload, 1) := by decide +kernel
theorem dd_C_takeLetter_49 : decode cc_C_takeLetter 49 = .ok (.goto 4, 3) := by decide +kernel
theorem dd_C_takeLetter_52 : decode cc_C_takeLetter 52 = .ok (.iconst 0, 1) := by decide +kernel
theorem dd_C_takeLetter_53 : decode cc_C_takeLetter 53 = .ok (.istore_n 2, 1) := by decide +kernel
theorem dd_C_takeLetter_54 : decode cc_C_takeLetter 54 = .ok (.iload_n 1, 1) := by decide +kernel
theorem dd_C_takeLetter_55 : decode cc_C_takeLetter 55 = .ok (.bipush 92, 2) := by decide +kernel
theorem dd_C_takeLetter_57 : decode cc_C_takeLetter 57 = .ok (.if_icmp .ne 27, 3) := by decide +kernel
theorem dd_C_takeLetter_60 : decode cc_C_takeLetter 60 = .ok (.iload_n 2, 1) := by decide +kernel
theorem dd_C_takeLetter_61 : decode cc_C_takeLetter 61 = .ok (.bipush 92, 2) := by decide +kernel
theorem dd_C_takeLetter_63 : decode cc_C_takeLetter 63 = .ok (.if_icmp .eq 9, 3) := by decide +kernel
theorem dd_C_takeLetter_66 : decode cc_C_takeLetter 66 = .ok (.iload_n 2, 1) := by decide +kernel
theorem dd_C_takeLetter_67 : decode cc_C_takeLetter 67 = .ok (.bipush 35, 2) := by decide +kernel
theorem dd_C_takeLetter_69 : decode cc_C_takeLetter 69 = .ok (.if_icmp .ne 15, 3) := by decide +kernel
theorem dd_C_takeLetter_72 : decode cc_C_takeLetter 72 = .ok (.aload_n 0, 1) := by decide +kernel
theorem dd_C_takeLetter_73 : decode cc_C_takeLetter 73 = .ok (.dup, 1) := by decide +kernel
theorem dd_C_takeLetter_74 : decode cc_C_takeLetter 74 = .ok (.getfield 9, 3) := by decide +kernel
theorem dd_C_takeLetter_77 : decode cc_C_takeLetter 77 = .ok (.iconst 2, 1) := by decide +kernel
theorem dd_C_takeLetter_78 : decode cc_C_takeLetter 78 = .ok (.iadd, 1) := by decide +kernel
theorem dd_C_takeLetter_79 : decode cc_C_takeLetter 79 = .ok (.putfield 9, 3) := by decide +kernel
theorem dd_C_takeLetter_82 : decode cc_C_takeLetter 82 = .ok (.iload_n 2, 1) := by decide +kernel
theorem dd_C_takeLetter_83 : decode cc_C_takeLetter 83 = .ok (.ireturn, 1) := by decide +kernel
theorem dd_C_takeLetter_84 : decode cc_C_takeLetter 84 = .ok (.iload_n 1, 1) := by decide +kernel
theorem dd_C_takeLetter_85 : decode cc_C_takeLetter 85 = .ok (.ifCond .eq 27, 3) := by decide +kernel
theorem dd_C_takeLetter_88 : decode cc_C_takeLetter 88 = .ok (.iload_n 1, 1) := by decide +kernel
theorem dd_C_takeLetter_89 : decode cc_C_takeLetter 89 = .ok (.bipush 92, 2) := by decide +kernel
theorem dd_C_takeLetter_91 : decode cc_C_takeLetter 91 = .ok (.if_icmp .eq 21, 3) := by decide +kernel
theorem dd_C_takeLetter_94 : decode cc_C_takeLetter 94 = .ok (.iload_n 1, 1) := by decide +kernel
theorem dd_C_takeLetter_95 : decode cc_C_takeLetter 95 = .ok (.bipush 35, 2) := by decide +kernel
theorem dd_C_takeLetter_97 : decode cc_C_takeLetter 97 = .ok (.if_icmp .eq 15, 3) := by decide +kernel
theorem dd_C_takeLetter_100 : decode cc_C_takeLetter 100 = .ok (.iload_n 1, 1) := by decide +kernel
theorem dd_C_takeLetter_101 : decode cc_C_takeLetter 101 = .ok (.bipush 32, 2) := by decide +kernel
theorem dd_C_takeLetter_103 : decode cc_C_takeLetter 103 = .ok (.if_icmp .ne 11, 3) := by decide +kernel
theorem dd_C_takeLetter_106 : decode cc_C_takeLetter 106 = .ok (.iload_n 2, 1) := by decide +kernel
theorem dd_C_takeLetter_107 : decode cc_C_takeLetter 107 = .ok (.bipush 35, 2) := by decide +kernel
theorem dd_C_takeLetter_109 : decode cc_C_takeLetter 109 = .ok (.if_icmp .ne 5, 3) := by decide +kernel
theorem dd_C_takeLetter_112 : decode cc_C_takeLetter 112 = .ok (.iconst 0, 1) := by decide +kernel
theorem dd_C_takeLetter_113 : decode cc_C_takeLetter 113 = .ok (.ireturn, 1) := by decide +kernel
theorem dd_C_takeLetter_114 : decode cc_C_takeLetter 114 = .ok (.aload_n 0, 1) := by decide +kernel
theorem dd_C_takeLetter_115 : decode cc_C_takeLetter 115 = .ok (.dup, 1) := by decide +kernel
theorem dd_C_takeLetter_116 : decode cc_C_takeLetter 116 = .ok (.getfield 9, 3) := by decide +kernel
theorem dd_C_takeLetter_119 : decode cc_C_takeLetter 119 = .ok (.iconst 1, 1) := by decide +kernel
theorem dd_C_takeLetter_120 : decode cc_C_takeLetter 120 = .ok (.iadd, 1) := by decide +kernel
theorem dd_C_takeLetter_121 : decode cc_C_takeLetter 121 = .ok (.putfield 9, 3) := by decide +kernel
theorem dd_C_takeLetter_124 : decode cc_C_takeLetter 124 = .ok (.iload_n 1, 1) := by decide +kernel
theorem dd_C_takeLetter_125 : decode cc_C_takeLetter 125 = .ok (.ireturn, 1) := by decide +kernel
theorem dd_C_skipDigit_0 : decode cc_C_skipDigit 0 = .ok (.aload_n 0, 1) := by decide +kernel
theorem dd_C_skipDigit_1 : decode cc_C_skipDigit 1 = .ok (.getfield 9, 3) := by decide +kernel
theorem dd_C_skipDigit_4 : decode cc_C_skipDigit 4 = .ok (.aload_n 0, 1) := by decide +kernel
theorem dd_C_skipDigit_5 : decode cc_C_skipDigit 5 = .ok (.getfield 15, 3) := by decide +kernel
theorem dd_C_skipDigit_8 : decode cc_C_skipDigit 8 = .ok (.if_icmp .ge 19, 3) := by decide +kernel
theorem dd_C_skipDigit_11 : decode cc_C_skipDigit 11 = .ok (.aload_n 0, 1) := by decide +kernel
theorem dd_C_skipDigit_12 : decode cc_C_skipDigit 12 = .ok (.getfield 18, 3) := by decide +kernel
theorem dd_C_skipDigit_15 : decode cc_C_skipDigit 15 = .ok (.aload_n 0, 1) := by decide +kernel
theorem dd_C_skipDigit_16 : decode cc_C_skipDigit 16 = .ok (.getfield 9, 3) := by decide +kernel
theorem dd_C_skipDigit_19 : decode cc_C_skipDigit 19 = .ok (.caload, 1) := by decide +kernel
theorem dd_C_skipDigit_20 : decode cc_C_skipDigit 20 = .ok (.bipush 48, 2) := by decide +kernel
theorem dd_C_skipDigit_22 : decode cc_C_skipDigit 22 = .ok (.iload_n 1, 1) := by decide +kernel
theorem dd_C_skipDigit_23 : decode cc_C_skipDigit 23 = .ok (.iadd, 1) := by decide +kernel
theorem dd_C_skipDigit_24 : decode cc_C_skipDigit 24 = .ok (.if_icmp .eq 5, 3) := by decide +kernel
theorem dd_C_skipDigit_27 : decode cc_C_skipDigit 27 = .ok (.iconst 0, 1) := by decide +kernel
theorem dd_C_skipDigit_28 : decode cc_C_skipDigit 28 = .ok (.ireturn, 1) := by decide +kernel
theorem dd_C_skipDigit_29 : decode cc_C_skipDigit 29 = .ok (.aload_n 0, 1) := by decide +kernel
theorem dd_C_skipDigit_30 : decode cc_C_skipDigit 30 = .ok (.dup, 1) := by decide +kernel
theorem dd_C_skipDigit_31 : decode cc_C_skipDigit 31 = .ok (.getfield 9, 3) := by decide +kernel
theorem dd_C_skipDigit_34 : decode cc_C_skipDigit 34 = .ok (.iconst 1, 1) := by decide +kernel
theorem dd_C_skipDigit_35 : decode cc_C_skipDigit 35 = .ok (.iadd, 1) := by decide +kernel
theorem dd_C_skipDigit_36 : decode cc_C_skipDigit 36 = .ok (.putfield 9, 3) := by decide +kernel
theorem dd_C_skipDigit_39 : decode cc_C_skipDigit 39 = .ok (.iconst 1, 1) := by decide +kernel
theorem dd_C_skipDigit_40 : decode cc_C_skipDigit 40 = .ok (.ireturn, 1) := by decide +kernel
theorem dd_N_codeAt_0 : decode cc_N_codeAt 0 = .ok (.lload_n 0, 1) := by decide +kernel
theorem dd_N_codeAt_1 : decode cc_N_codeAt 1 = .ok (.bipush 7, 2) := by decide +kernel
theorem dd_N_codeAt_3 : decode cc_N_codeAt 3 = .ok (.iload_n 2, 1) := by decide +kernel
theorem dd_N_codeAt_4 : decode cc_N_codeAt 4 = .ok (.imul, 1) := by decide +kernel
theorem dd_N_codeAt_5 : decode cc_N_codeAt 5 = .ok (.lushr, 1) := by decide +kernel
theorem dd_N_codeAt_6 : decode cc_N_codeAt 6 = .ok (.l2i, 1) := by decide +kernel
theorem dd_N_codeAt_7 : decode cc_N_codeAt 7 = .ok (.bipush 127, 2) := by decide +kernel
theorem dd_N_codeAt_9 : decode cc_N_codeAt 9 = .ok (.iand, 1) := by decide +kernel
theorem dd_N_codeAt_10 : decode cc_N_codeAt 10 = .ok (.ireturn, 1) := by decide +kernel
theorem dd_N_withLetter_0 : decode cc_N_withLetter 0 = .ok (.lload_n 0, 1) := by decide +kernel
theorem dd_N_withLetter_1 : decode cc_N_withLetter 1 = .ok (.iload_n 3, 1) := by decide +kernel
theorem dd_N_withLetter_2 : decode cc_N_withLetter 2 = .ok (.i2l, 1) := by decide +kernel
theorem dd_N_withLetter_3 : decode cc_N_withLetter 3 = .ok (.bipush 7, 2) := by decide +kernel
theorem dd_N_withLetter_5 : decode cc_N_withLetter 5 = .ok (.iload_n 2, 1) := by decide +kernel
theorem dd_N_withLetter_6 : decode cc_N_withLetter 6 = .ok (.imul, 1) := by decide +kernel
theorem dd_N_withLetter_7 : decode cc_N_withLetter 7 = .ok (.lshl, 1) := by decide +kernel
theorem dd_N_withLetter_8 : decode cc_N_withLetter 8 = .ok (.lor, 1) := by decide +kernel
theorem dd_N_withLetter_9 : decode cc_N_withLetter 9 = .ok (.lreturn, 1) := by decide +kernel
theorem dd_P_init_0 : decode cc_P_init 0 = .ok (.aload_n 0, 1) := by decide +kernel
theorem dd_P_init_1 : decode cc_P_init 1 = .ok (.invokespecial 3, 3) := by decide +kernel
theorem dd_P_init_4 : decode cc_P_init 4 = .ok (.aload_n 0, 1) := by decide +kernel
theorem dd_P_init_5 : decode cc_P_init 5 = .ok (.sipush 3000, 3) := by decide +kernel
theorem dd_P_init_8 : decode cc_P_init 8 = .ok (.newarray .char, 2) := by decide +kernel
theorem dd_P_init_10 : decode cc_P_init 10 = .ok (.putfield 9, 3) := by decide +kernel
theorem dd_P_init_13 : decode cc_P_init 13 = .ok (.aload_n 0, 1) := by decide +kernel
theorem dd_P_init_14 : decode cc_P_init 14 = .ok (.iconst 0, 1) := by decide +kernel
theorem dd_P_init_15 : decode cc_P_init 15 = .ok (.putfield 15, 3) := by decide +kernel
theorem dd_P_init_18 : decode cc_P_init 18 = .ok (.return_, 1) := by decide +kernel
theorem dd_P_size_0 : decode cc_P_size 0 = .ok (.aload_n 0, 1) := by decide +kernel
theorem dd_P_size_1 : decode cc_P_size 1 = .ok (.getfield 15, 3) := by decide +kernel
theorem dd_P_size_4 : decode cc_P_size 4 = .ok (.ireturn, 1) := by decide +kernel
theorem dd_P_codeAt_0 : decode cc_P_codeAt 0 = .ok (.iload_n 1, 1) := by decide +kernel
theorem dd_P_codeAt_1 : decode cc_P_codeAt 1 = .ok (.ifCond .lt 20, 3) := by decide +kernel
theorem dd_P_codeAt_4 : decode cc_P_codeAt 4 = .ok (.iload_n 1, 1) := by decide +kernel
theorem dd_P_codeAt_5 : decode cc_P_codeAt 5 = .ok (.aload_n 0, 1) := by decide +kernel
theorem dd_P_codeAt_6 : decode cc_P_codeAt 6 = .ok (.getfield 15, 3) := by decide +kernel
theorem dd_P_codeAt_9 : decode cc_P_codeAt 9 = .ok (.if_icmp .ge 12, 3) := by decide +kernel
theorem dd_P_codeAt_12 : decode cc_P_codeAt 12 = .ok (.aload_n 0, 1) := by decide +kernel
theorem dd_P_codeAt_13 : decode cc_P_codeAt 13 = .ok (.getfield 9, 3) := by decide +kernel
theorem dd_P_codeAt_16 : decode cc_P_codeAt 16 = .ok (.iload_n 1, 1) := by decide +kernel
theorem dd_P_codeAt_17 : decode cc_P_codeAt 17 = .ok (.caload, 1) := by decide +kernel
theorem dd_P_codeAt_18 : decode cc_P_codeAt 18 = .ok (.goto 4, 3) := by decide +kernel
theorem dd_P_codeAt_21 : decode cc_P_codeAt 21 = .ok (.iconst (-1), 1) := by decide +kernel
theorem dd_P_codeAt_22 : decode cc_P_codeAt 22 = .ok (.ireturn, 1) := by decide +kernel
theorem dd_P_add_0 : decode cc_P_add 0 = .ok (.aload_n 0, 1) := by decide +kernel
theorem dd_P_add_1 : decode cc_P_add 1 = .ok (.getfield 15, 3) := by decide +kernel
theorem dd_P_add_4 : decode cc_P_add 4 = .ok (.sipush 3000, 3) := by decide +kernel
theorem dd_P_add_7 : decode cc_P_add 7 = .ok (.if_icmp .lt 5, 3) := by decide +kernel
theorem dd_P_add_10 : decode cc_P_add 10 = .ok (.iconst 0, 1) := by decide +kernel
theorem dd_P_add_11 : decode cc_P_add 11 = .ok (.ireturn, 1) := by decide +kernel
theorem dd_P_add_12 : decode cc_P_add 12 = .ok (.aload_n 0, 1) := by decide +kernel
theorem dd_P_add_13 : decode cc_P_add 13 = .ok (.getfield 9, 3) := by decide +kernel
theorem dd_P_add_16 : decode cc_P_add 16 = .ok (.aload_n 0, 1) := by decide +kernel
theorem dd_P_add_17 : decode cc_P_add 17 = .ok (.getfield 15, 3) := by decide +kernel
theorem dd_P_add_20 : decode cc_P_add 20 = .ok (.iload_n 1, 1) := by decide +kernel
theorem dd_P_add_21 : decode cc_P_add 21 = .ok (.castore, 1) := by decide +kernel
theorem dd_P_add_22 : decode cc_P_add 22 = .ok (.aload_n 0, 1) := by decide +kernel
theorem dd_P_add_23 : decode cc_P_add 23 = .ok (.dup, 1) := by decide +kernel
theorem dd_P_add_24 : decode cc_P_add 24 = .ok (.getfield 15, 3) := by decide +kernel
theorem dd_P_add_27 : decode cc_P_add 27 = .ok (.iconst 1, 1) := by decide +kernel
theorem dd_P_add_28 : decode cc_P_add 28 = .ok (.iadd, 1) := by decide +kernel
theorem dd_P_add_29 : decode cc_P_add 29 = .ok (.putfield 15, 3) := by decide +kernel
theorem dd_P_add_32 : decode cc_P_add 32 = .ok (.iconst 1, 1) := by decide +kernel
theorem dd_P_add_33 : decode cc_P_add 33 = .ok (.ireturn, 1) := by decide +kernel
theorem dd_P_replace_0 : decode cc_P_replace 0 = .ok (.iload_n 1, 1) := by decide +kernel
theorem dd_P_replace_1 : decode cc_P_replace 1 = .ok (.ifCond .lt 11, 3) := by decide +kernel
theorem dd_P_replace_4 : decode cc_P_replace 4 = .ok (.iload_n 1, 1) := by decide +kernel
theorem dd_P_replace_5 : decode cc_P_replace 5 = .ok (.aload_n 0, 1) := by decide +kernel
theorem dd_P_replace_6 : decode cc_P_replace 6 = .ok (.getfield 15, 3) := by decide +kernel
theorem dd_P_replace_9 : decode cc_P_replace 9 = .ok (.if_icmp .lt 5, 3) := by decide +kernel
theorem dd_P_replace_12 : decode cc_P_replace 12 = .ok (.iconst 0, 1) := by decide +kernel
theorem dd_P_replace_13 : decode cc_P_replace 13 = .ok (.ireturn, 1) := by decide +kernel
theorem dd_P_replace_14 : decode cc_P_replace 14 = .ok (.aload_n 0, 1) := by decide +kernel
theorem dd_P_replace_15 : decode cc_P_replace 15 = .ok (.getfield 9, 3) := by decide +kernel
theorem dd_P_replace_18 : decode cc_P_replace 18 = .ok (.iload_n 1, 1) := by decide +kernel
theorem dd_P_replace_19 : decode cc_P_replace 19 = .ok (.iload_n 2, 1) := by decide +kernel
theorem dd_P_replace_20 : decode cc_P_replace 20 = .ok (.castore, 1) := by decide +kernel
theorem dd_P_replace_21 : decode cc_P_replace 21 = .ok (.iconst 1, 1) := by decide +kernel
theorem dd_P_replace_22 : decode cc_P_replace 22 = .ok (.ireturn, 1) := by decide +kernel
theorem dd_P_shorten_0 : decode cc_P_shorten 0 = .ok (.iload_n 1, 1) := by decide +kernel
theorem dd_P_shorten_1 : decode cc_P_shorten 1 = .ok (.ifCond .lt 11, 3) := by decide +kernel
theorem dd_P_shorten_4 : decode cc_P_shorten 4 = .ok (.iload_n 1, 1) := by decide +kernel
theorem dd_P_shorten_5 : decode cc_P_shorten 5 = .ok (.aload_n 0, 1) := by decide +kernel
theorem dd_P_shorten_6 : decode cc_P_shorten 6 = .ok (.getfield 15, 3) := by decide +kernel
theorem dd_P_shorten_9 : decode cc_P_shorten 9 = .ok (.if_icmp .le 5, 3) := by decide +kernel
theorem dd_P_shorten_12 : decode cc_P_shorten 12 = .ok (.iconst 0, 1) := by decide +kernel
theorem dd_P_shorten_13 : decode cc_P_shorten 13 = .ok (.ireturn, 1) := by decide +kernel
theorem dd_P_shorten_14 : decode cc_P_shorten 14 = .ok (.aload_n 0, 1) := by decide +kernel
theorem dd_P_shorten_15 : decode cc_P_shorten 15 = .ok (.iload_n 1, 1) := by decide +kernel
theorem dd_P_shorten_16 : decode cc_P_shorten 16 = .ok (.putfield 15, 3) := by decide +kernel
theorem dd_P_shorten_19 : decode cc_P_shorten 19 = .ok (.iconst 1, 1) := by decide +kernel
theorem dd_P_shorten_20 : decode cc_P_shorten 20 = .ok (.ireturn, 1) := by decide +kernel
theorem dd_P_addText_0 : decode cc_P_addText 0 = .ok (.iconst 0, 1) := by decide +kernel
theorem dd_P_addText_1 : decode cc_P_addText 1 = .ok (.istore_n 2, 1) := by decide +kernel
theorem dd_P_addText_2 : decode cc_P_addText 2 = .ok (.iload_n 2, 1) := by decide +kernel
theorem dd_P_addText_3 : decode cc_P_addText 3 = .ok (.aload_n 1, 1) := by decide +kernel
theorem dd_P_addText_4 : decode cc_P_addText 4 = .ok (.invokevirtual 19, 3) := by decide +kernel
theorem dd_P_addText_7 : decode cc_P_addText 7 = .ok (.if_icmp .ge 19, 3) := by decide +kernel
theorem dd_P_addText_10 : decode cc_P_addText 10 = .ok (.aload_n 0, 1) := by decide +kernel
theorem dd_P_addText_11 : decode cc_P_addText 11 = .ok (.aload_n 1, 1) := by decide +kernel
theorem dd_P_addText_12 : decode cc_P_addText 12 = .ok (.iload_n 2, 1) := by decide +kernel
theorem dd_P_addText_13 : decode cc_P_addText 13 = .ok (.invokevirtual 25, 3) := by decide +kernel
theorem dd_P_addText_16 : decode cc_P_addText 16 = .ok (.invokevirtual 29, 3) := by decide +kernel
theorem dd_P_addText_19 : decode cc_P_addText 19 = .ok (.pop, 1) := by decide +kernel
theorem dd_P_addText_20 : decode cc_P_addText 20 = .ok (.iinc 2 1, 3) := by decide +kernel
theorem dd_P_addText_23 : decode cc_P_addText 23 = .ok (.goto (-21), 3) := by decide +kernel
theorem dd_P_addText_26 : decode cc_P_addText 26 = .ok (.return_, 1) := by decide +kernel
theorem dd_P_addIndent_0 : decode cc_P_addIndent 0 = .ok (.iconst 0, 1) := by decide +kernel
theorem dd_P_addIndent_1 : decode cc_P_addIndent 1 = .ok (.istore_n 2, 1) := by decide +kernel
theorem dd_P_addIndent_2 : decode cc_P_addIndent 2 = .ok (.iload_n 2, 1) := by decide +kernel
theorem dd_P_addIndent_3 : decode cc_P_addIndent 3 = .ok (.iload_n 1, 1) := by decide +kernel
theorem dd_P_addIndent_4 : decode cc_P_addIndent 4 = .ok (.if_icmp .ge 15, 3) := by decide +kernel
theorem dd_P_addIndent_7 : decode cc_P_addIndent 7 = .ok (.aload_n 0, 1) := by decide +kernel
theorem dd_P_addIndent_8 : decode cc_P_addIndent 8 = .ok (.ldc 33, 2) := by decide +kernel
theorem dd_P_addIndent_10 : decode cc_P_addIndent 10 = .ok (.invokevirtual 35, 3) := by decide +kernel
theorem dd_P_addIndent_13 : decode cc_P_addIndent 13 = .ok (.iinc 2 1, 3) := by decide +kernel
theorem dd_P_addIndent_16 : decode cc_P_addIndent 16 = .ok (.goto (-14), 3) := by decide +kernel
theorem dd_P_addIndent_19 : decode cc_P_addIndent 19 = .ok (.return_, 1) := by decide +kernel
theorem dd_P_addNumber_0 : decode cc_P_addNumber 0 = .ok (.iload_n 1, 1) := by decide +kernel
theorem dd_P_addNumber_1 : decode cc_P_addNumber 1 = .ok (.bipush 10, 2) := by decide +kernel
theorem dd_P_addNumber_3 : decode cc_P_addNumber 3 = .ok (.if_icmp .lt 16, 3) := by decide +kernel
theorem dd_P_addNumber_6 : decode cc_P_addNumber 6 = .ok (.aload_n 0, 1) := by decide +kernel
theorem dd_P_addNumber_7 : decode cc_P_addNumber 7 = .ok (.bipush 48, 2) := by decide +kernel
theorem dd_P_addNumber_9 : decode cc_P_addNumber 9 = .ok (.iload_n 1, 1) := by decide +kernel
theorem dd_P_addNumber_10 : decode cc_P_addNumber 10 = .ok (.bipush 10, 2) := by decide +kernel
theorem dd_P_addNumber_12 : decode cc_P_addNumber 12 = .ok (.idiv, 1) := by decide +kernel
theorem dd_P_addNumber_13 : decode cc_P_addNumber 13 = .ok (.iadd, 1) := by decide +kernel
theorem dd_P_addNumber_14 : decode cc_P_addNumber 14 = .ok (.i2c, 1) := by decide +kernel
theorem dd_P_addNumber_15 : decode cc_P_addNumber 15 = .ok (.invokevirtual 29, 3) := by decide +kernel
theorem dd_P_addNumber_18 : decode cc_P_addNumber 18 = .ok (.pop, 1) := by decide +kernel
theorem dd_P_addNumber_19 : decode cc_P_addNumber 19 = .ok (.aload_n 0, 1) := by decide +kernel
theorem dd_P_addNumber_20 : decode cc_P_addNumber 20 = .ok (.bipush 48, 2) := by decide +kernel
theorem dd_P_addNumber_22 : decode cc_P_addNumber 22 = .ok (.iload_n 1, 1) := by decide +kernel
theorem dd_P_addNumber_23 : decode cc_P_addNumber 23 = .ok (.bipush 10, 2) := by decide +kernel
theorem dd_P_addNumber_25 : decode cc_P_addNumber 25 = .ok (.irem, 1) := by decide +kernel
theorem dd_P_addNumber_26 : decode cc_P_addNumber 26 = .ok (.iadd, 1) := by decide +kernel
theorem dd_P_addNumber_27 : decode cc_P_addNumber 27 = .ok (.i2c, 1) := by decide +kernel
theorem dd_P_addNumber_28 : decode cc_P_addNumber 28 = .ok (.invokevirtual 29, 3) := by decide +kernel
theorem dd_P_addNumber_31 : decode cc_P_addNumber 31 = .ok (.pop, 1) := by decide +kernel
theorem dd_P_addNumber_32 : decode cc_P_addNumber 32 = .ok (.return_, 1) := by decide +kernel
theorem dd_P_cursor_0 : decode cc_P_cursor 0 = .ok (.new 49, 3) := by decide +kernel
theorem dd_P_cursor_3 : decode cc_P_cursor 3 = .ok (.dup, 1) := by decide +kernel
theorem dd_P_cursor_4 : decode cc_P_cursor 4 = .ok (.aload_n 0, 1) := by decide +kernel
theorem dd_P_cursor_5 : decode cc_P_cursor 5 = .ok (.getfield 9, 3) := by decide +kernel
theorem dd_P_cursor_8 : decode cc_P_cursor 8 = .ok (.aload_n 0, 1) := by decide +kernel
theorem dd_P_cursor_9 : decode cc_P_cursor 9 = .ok (.getfield 15, 3) := by decide +kernel
theorem dd_P_cursor_12 : decode cc_P_cursor 12 = .ok (.invokespecial 51, 3) := by decide +kernel
theorem dd_P_cursor_15 : decode cc_P_cursor 15 = .ok (.areturn, 1) := by decide +kernel
theorem dd_E_init_0 : decode cc_E_init 0 = .ok (.aload_n 0, 1) := by decide +kernel
theorem dd_E_init_1 : decode cc_E_init 1 = .ok (.invokespecial 3, 3) := by decide +kernel
theorem dd_E_init_4 : decode cc_E_init 4 = .ok (.aload_n 0, 1) := by decide +kernel
theorem dd_E_init_5 : decode cc_E_init 5 = .ok (.iconst 0, 1) := by decide +kernel
theorem dd_E_init_6 : decode cc_E_init 6 = .ok (.putfield 11, 3) := by decide +kernel
theorem dd_E_init_9 : decode cc_E_init 9 = .ok (.aload_n 0, 1) := by decide +kernel
theorem dd_E_init_10 : decode cc_E_init 10 = .ok (.aload_n 1, 1) := by decide +kernel
theorem dd_E_init_11 : decode cc_E_init 11 = .ok (.putfield 15, 3) := by decide +kernel
theorem dd_E_init_14 : decode cc_E_init 14 = .ok (.aload_n 0, 1) := by decide +kernel
theorem dd_E_init_15 : decode cc_E_init 15 = .ok (.aload_n 2, 1) := by decide +kernel
theorem dd_E_init_16 : decode cc_E_init 16 = .ok (.putfield 19, 3) := by decide +kernel
theorem dd_E_init_19 : decode cc_E_init 19 = .ok (.return_, 1) := by decide +kernel
theorem dd_W_init_0 : decode cc_W_init 0 = .ok (.aload_n 0, 1) := by decide +kernel
theorem dd_W_init_1 : decode cc_W_init 1 = .ok (.invokespecial 3, 3) := by decide +kernel
theorem dd_W_init_4 : decode cc_W_init 4 = .ok (.aload_n 0, 1) := by decide +kernel
theorem dd_W_init_5 : decode cc_W_init 5 = .ok (.aload_n 1, 1) := by decide +kernel
theorem dd_W_init_6 : decode cc_W_init 6 = .ok (.putfield 9, 3) := by decide +kernel
theorem dd_W_init_9 : decode cc_W_init 9 = .ok (.aload_n 0, 1) := by decide +kernel
theorem dd_W_init_10 : decode cc_W_init 10 = .ok (.aload_n 2, 1) := by decide +kernel
theorem dd_W_init_11 : decode cc_W_init 11 = .ok (.putfield 15, 3) := by decide +kernel
theorem dd_W_init_14 : decode cc_W_init 14 = .ok (.return_, 1) := by decide +kernel
theorem dd_W_verdictOf_0 : decode cc_W_verdictOf 0 = .ok (.iload_n 0, 1) := by decide +kernel
theorem dd_W_verdictOf_1 : decode cc_W_verdictOf 1 = .ok (.iconst 1, 1) := by decide +kernel
theorem dd_W_verdictOf_2 : decode cc_W_verdictOf 2 = .ok (.if_icmp .eq 13, 3) := by decide +kernel
theorem dd_W_verdictOf_5 : decode cc_W_verdictOf 5 = .ok (.iload_n 0, 1) := by decide +kernel
theorem dd_W_verdictOf_6 : decode cc_W_verdictOf 6 = .ok (.iconst 3, 1) := by decide +kernel
theorem dd_W_verdictOf_7 : decode cc_W_verdictOf 7 = .ok (.if_icmp .eq 8, 3) := by decide +kernel
theorem dd_W_verdictOf_10 : decode cc_W_verdictOf 10 = .ok (.iload_n 0, 1) := by decide +kernel
theorem dd_W_verdictOf_11 : decode cc_W_verdictOf 11 = .ok (.iconst 5, 1) := by decide +kernel
theorem dd_W_verdictOf_12 : decode cc_W_verdictOf 12 = .ok (.if_icmp .ne 8, 3) := by decide +kernel
theorem dd_W_verdictOf_15 : decode cc_W_verdictOf 15 = .ok (.ldc 115, 2) := by decide +kernel
theorem dd_W_verdictOf_17 : decode cc_W_verdictOf 17 = .ok (.goto 5, 3) := by decide +kernel
theorem dd_W_verdictOf_20 : decode cc_W_verdictOf 20 = .ok (.ldc 117, 2) := by decide +kernel
theorem dd_W_verdictOf_22 : decode cc_W_verdictOf 22 = .ok (.areturn, 1) := by decide +kernel
theorem dd_W_directiveOf_0 : decode cc_W_directiveOf 0 = .ok (.iload_n 0, 1) := by decide +kernel
theorem dd_W_directiveOf_1 : decode cc_W_directiveOf 1 = .ok (.iconst 2, 1) := by decide +kernel
theorem dd_W_directiveOf_2 : decode cc_W_directiveOf 2 = .ok (.if_icmp .ne 6, 3) := by decide +kernel
theorem dd_W_directiveOf_5 : decode cc_W_directiveOf 5 = .ok (.ldc 119, 2) := by decide +kernel
theorem dd_W_directiveOf_7 : decode cc_W_directiveOf 7 = .ok (.areturn, 1) := by decide +kernel
theorem dd_W_directiveOf_8 : decode cc_W_directiveOf 8 = .ok (.iload_n 0, 1) := by decide +kernel
theorem dd_W_directiveOf_9 : decode cc_W_directiveOf 9 = .ok (.iconst 3, 1) := by decide +kernel
theorem dd_W_directiveOf_10 : decode cc_W_directiveOf 10 = .ok (.if_icmp .ne 8, 3) := by decide +kernel
theorem dd_W_directiveOf_13 : decode cc_W_directiveOf 13 = .ok (.ldc 121, 2) := by decide +kernel
theorem dd_W_directiveOf_15 : decode cc_W_directiveOf 15 = .ok (.goto 5, 3) := by decide +kernel
theorem dd_W_directiveOf_18 : decode cc_W_directiveOf 18 = .ok (.ldc 123, 2) := by decide +kernel
theorem dd_W_directiveOf_20 : decode cc_W_directiveOf 20 = .ok (.areturn, 1) := by decide +kernel
theorem dd_R_init_0 : decode cc_R_init 0 = .ok (.aload_n 0, 1) := by decide +kernel
theorem dd_R_init_1 : decode cc_R_init 1 = .ok (.invokespecial 3, 3) := by decide +kernel
theorem dd_R_init_4 : decode cc_R_init 4 = .ok (.aload_n 0, 1) := by decide +kernel
theorem dd_R_init_5 : decode cc_R_init 5 = .ok (.bipush 24, 2) := by decide +kernel
theorem dd_R_init_7 : decode cc_R_init 7 = .ok (.newarray .int, 2) := by decide +kernel
theorem dd_R_init_9 : decode cc_R_init 9 = .ok (.putfield 9, 3) := by decide +kernel
theorem dd_R_init_12 : decode cc_R_init 12 = .ok (.aload_n 0, 1) := by decide +kernel
theorem dd_R_init_13 : decode cc_R_init 13 = .ok (.bipush 24, 2) := by decide +kernel
theorem dd_R_init_15 : decode cc_R_init 15 = .ok (.newarray .int, 2) := by decide +kernel
theorem dd_R_init_17 : decode cc_R_init 17 = .ok (.putfield 15, 3) := by decide +kernel
theorem dd_R_init_20 : decode cc_R_init 20 = .ok (.aload_n 0, 1) := by decide +kernel
theorem dd_R_init_21 : decode cc_R_init 21 = .ok (.bipush 24, 2) := by decide +kernel
theorem dd_R_init_23 : decode cc_R_init 23 = .ok (.newarray .int, 2) := by decide +kernel
theorem dd_R_init_25 : decode cc_R_init 25 = .ok (.putfield 18, 3) := by decide +kernel
theorem dd_R_init_28 : decode cc_R_init 28 = .ok (.aload_n 0, 1) := by decide +kernel
theorem dd_R_init_29 : decode cc_R_init 29 = .ok (.bipush 24, 2) := by decide +kernel
theorem dd_R_init_31 : decode cc_R_init 31 = .ok (.newarray .long, 2) := by decide +kernel
theorem dd_R_init_33 : decode cc_R_init 33 = .ok (.putfield 21, 3) := by decide +kernel
theorem dd_R_init_36 : decode cc_R_init 36 = .ok (.aload_n 0, 1) := by decide +kernel
theorem dd_R_init_37 : decode cc_R_init 37 = .ok (.iconst 0, 1) := by decide +kernel
theorem dd_R_init_38 : decode cc_R_init 38 = .ok (.putfield 25, 3) := by decide +kernel
theorem dd_R_init_41 : decode cc_R_init 41 = .ok (.aload_n 0, 1) := by decide +kernel
theorem dd_R_init_42 : decode cc_R_init 42 = .ok (.iconst (-1), 1) := by decide +kernel
theorem dd_R_init_43 : decode cc_R_init 43 = .ok (.putfield 29, 3) := by decide +kernel
theorem dd_R_init_46 : decode cc_R_init 46 = .ok (.aload_n 0, 1) := by decide +kernel
theorem dd_R_init_47 : decode cc_R_init 47 = .ok (.iconst 0, 1) := by decide +kernel
theorem dd_R_init_48 : decode cc_R_init 48 = .ok (.putfield 32, 3) := by decide +kernel
theorem dd_R_init_51 : decode cc_R_init 51 = .ok (.return_, 1) := by decide +kernel
theorem dd_R_removeAll_0 : decode cc_R_removeAll 0 = .ok (.aload_n 0, 1) := by decide +kernel
theorem dd_R_removeAll_1 : decode cc_R_removeAll 1 = .ok (.iconst 0, 1) := by decide +kernel
theorem dd_R_removeAll_2 : decode cc_R_removeAll 2 = .ok (.putfield 25, 3) := by decide +kernel
theorem dd_R_removeAll_5 : decode cc_R_removeAll 5 = .ok (.aload_n 0, 1) := by decide +kernel
theorem dd_R_removeAll_6 : decode cc_R_removeAll 6 = .ok (.iconst (-1), 1) := by decide +kernel
theorem dd_R_removeAll_7 : decode cc_R_removeAll 7 = .ok (.putfield 29, 3) := by decide +kernel
theorem dd_R_removeAll_10 : decode cc_R_removeAll 10 = .ok (.aload_n 0, 1) := by decide +kernel
theorem dd_R_removeAll_11 : decode cc_R_removeAll 11 = .ok (.iconst 0, 1) := by decide +kernel
theorem dd_R_removeAll_12 : decode cc_R_removeAll 12 = .ok (.putfield 32, 3) := by decide +kernel
theorem dd_R_removeAll_15 : decode cc_R_removeAll 15 = .ok (.return_, 1) := by decide +kernel
theorem dd_R_size_0 : decode cc_R_size 0 = .ok (.aload_n 0, 1) := by decide +kernel
theorem dd_R_size_1 : decode cc_R_size 1 = .ok (.getfield 25, 3) := by decide +kernel
theorem dd_R_size_4 : decode cc_R_size 4 = .ok (.ireturn, 1) := by decide +kernel
theorem dd_R_has_0 : decode cc_R_has 0 = .ok (.iload_n 1, 1) := by decide +kernel
theorem dd_R_has_1 : decode cc_R_has 1 = .ok (.ifCond .lt 15, 3) := by decide +kernel
theorem dd_R_has_4 : decode cc_R_has 4 = .ok (.iload_n 1, 1) := by decide +kernel
theorem dd_R_has_5 : decode cc_R_has 5 = .ok (.aload_n 0, 1) := by decide +kernel
theorem dd_R_has_6 : decode cc_R_has 6 = .ok (.getfield 25, 3) := by decide +kernel
theorem dd_R_has_9 : decode cc_R_has 9 = .ok (.if_icmp .ge 7, 3) := by decide +kernel
theorem dd_R_has_12 : decode cc_R_has 12 = .ok (.iconst 1, 1) := by decide +kernel
theorem dd_R_has_13 : decode cc_R_has 13 = .ok (.goto 4, 3) := by decide +kernel
theorem dd_R_has_16 : decode cc_R_has 16 = .ok (.iconst 0, 1) := by decide +kernel
theorem dd_R_has_17 : decode cc_R_has 17 = .ok (.ireturn, 1) := by decide +kernel
theorem dd_R_isTest_0 : decode cc_R_isTest 0 = .ok (.aload_n 0, 1) := by decide +kernel
theorem dd_R_isTest_1 : decode cc_R_isTest 1 = .ok (.iload_n 1, 1) := by decide +kernel
theorem dd_R_isTest_2 : decode cc_R_isTest 2 = .ok (.invokevirtual 35, 3) := by decide +kernel
theorem dd_R_isTest_5 : decode cc_R_isTest 5 = .ok (.ifCond .eq 17, 3) := by decide +kernel
theorem dd_R_isTest_8 : decode cc_R_isTest 8 = .ok (.aload_n 0, 1) := by decide +kernel
theorem dd_R_isTest_9 : decode cc_R_isTest 9 = .ok (.getfield 9, 3) := by decide +kernel
theorem dd_R_isTest_12 : decode cc_R_isTest 12 = .ok (.iload_n 1, 1) := by decide +kernel
theorem dd_R_isTest_13 : decode cc_R_isTest 13 = .ok (.iaload, 1) := by decide +kernel
theorem dd_R_isTest_14 : decode cc_R_isTest 14 = .ok (.iconst 3, 1) := by decide +kernel
theorem dd_R_isTest_15 : decode cc_R_isTest 15 = .ok (.if_icmp .gt 7, 3) := by decide +kernel
theorem dd_R_isTest_18 : decode cc_R_isTest 18 = .ok (.iconst 1, 1) := by decide +kernel
theorem dd_R_isTest_19 : decode cc_R_isTest 19 = .ok (.goto 4, 3) := by decide +kernel
theorem dd_R_isTest_22 : decode cc_R_isTest 22 = .ok (.iconst 0, 1) := by decide +kernel
theorem dd_R_isTest_23 : decode cc_R_isTest 23 = .ok (.ireturn, 1) := by decide +kernel
theorem dd_R_kindOf_0 : decode cc_R_kindOf 0 = .ok (.aload_n 0, 1) := by decide +kernel
theorem dd_R_kindOf_1 : decode cc_R_kindOf 1 = .ok (.iload_n 1, 1) := by decide +kernel
theorem dd_R_kindOf_2 : decode cc_R_kindOf 2 = .ok (.invokevirtual 35, 3) := by decide +kernel
theorem dd_R_kindOf_5 : decode cc_R_kindOf 5 = .ok (.ifCond .eq 12, 3) := by decide +kernel
theorem dd_R_kindOf_8 : decode cc_R_kindOf 8 = .ok (.aload_n 0, 1) := by decide +kernel
theorem dd_R_kindOf_9 : decode cc_R_kindOf 9 = .ok (.getfield 9, 3) := by decide +kernel
theorem dd_R_kindOf_12 : decode cc_R_kindOf 12 = .ok (.iload_n 1, 1) := by decide +kernel
theorem dd_R_kindOf_13 : decode cc_R_kindOf 13 = .ok (.iaload, 1) := by decide +kernel
theorem dd_R_kindOf_14 : decode cc_R_kindOf 14 = .ok (.goto 4, 3) := by decide +kernel
theorem dd_R_kindOf_17 : decode cc_R_kindOf 17 = .ok (.iconst (-1), 1) := by decide +kernel
theorem dd_R_kindOf_18 : decode cc_R_kindOf 18 = .ok (.ireturn, 1) := by decide +kernel
theorem dd_R_depthOf_0 : decode cc_R_depthOf 0 = .ok (.aload_n 0, 1) := by decide +kernel
theorem dd_R_depthOf_1 : decode cc_R_depthOf 1 = .ok (.iload_n 1, 1) := by decide +kernel
theorem dd_R_depthOf_2 : decode cc_R_depthOf 2 = .ok (.invokevirtual 35, 3) := by decide +kernel
theorem dd_R_depthOf_5 : decode cc_R_depthOf 5 = .ok (.ifCond .eq 12, 3) := by decide +kernel
theorem dd_R_depthOf_8 : decode cc_R_depthOf 8 = .ok (.aload_n 0, 1) := by decide +kernel
theorem dd_R_depthOf_9 : decode cc_R_depthOf 9 = .ok (.getfield 15, 3) := by decide +kernel
theorem dd_R_depthOf_12 : decode cc_R_depthOf 12 = .ok (.iload_n 1, 1) := by decide +kernel
theorem dd_R_depthOf_13 : decode cc_R_depthOf 13 = .ok (.iaload, 1) := by decide +kernel
theorem dd_R_depthOf_14 : decode cc_R_depthOf 14 = .ok (.goto 4, 3) := by decide +kernel
theorem dd_R_depthOf_17 : decode cc_R_depthOf 17 = .ok (.iconst (-1), 1) := by decide +kernel
theorem dd_R_depthOf_18 : decode cc_R_depthOf 18 = .ok (.ireturn, 1) := by decide +kernel
theorem dd_R_suiteOf_0 : decode cc_R_suiteOf 0 = .ok (.aload_n 0, 1) := by decide +kernel
theorem dd_R_suiteOf_1 : decode cc_R_suiteOf 1 = .ok (.iload_n 1, 1) := by decide +kernel
theorem dd_R_suiteOf_2 : decode cc_R_suiteOf 2 = .ok (.invokevirtual 35, 3) := by decide +kernel
theorem dd_R_suiteOf_5 : decode cc_R_suiteOf 5 = .ok (.ifCond .eq 12, 3) := by decide +kernel
theorem dd_R_suiteOf_8 : decode cc_R_suiteOf 8 = .ok (.aload_n 0, 1) := by decide +kernel
theorem dd_R_suiteOf_9 : decode cc_R_suiteOf 9 = .ok (.getfield 18, 3) := by decide +kernel
theorem dd_R_suiteOf_12 : decode cc_R_suiteOf 12 = .ok (.iload_n 1, 1) := by decide +kernel
theorem dd_R_suiteOf_13 : decode cc_R_suiteOf 13 = .ok (.iaload, 1) := by decide +kernel
theorem dd_R_suiteOf_14 : decode cc_R_suiteOf 14 = .ok (.goto 4, 3) := by decide +kernel
theorem dd_R_suiteOf_17 : decode cc_R_suiteOf 17 = .ok (.iconst (-1), 1) := by decide +kernel
theorem dd_R_suiteOf_18 : decode cc_R_suiteOf 18 = .ok (.ireturn, 1) := by decide +kernel
theorem dd_R_nameOf_0 : decode cc_R_nameOf 0 = .ok (.aload_n 0, 1) := by decide +kernel
theorem dd_R_nameOf_1 : decode cc_R_nameOf 1 = .ok (.iload_n 1, 1) := by decide +kernel
theorem dd_R_nameOf_2 : decode cc_R_nameOf 2 = .ok (.invokevirtual 35, 3) := by decide +kernel
theorem dd_R_nameOf_5 : decode cc_R_nameOf 5 = .ok (.ifCond .eq 12, 3) := by decide +kernel
theorem dd_R_nameOf_8 : decode cc_R_nameOf 8 = .ok (.aload_n 0, 1) := by decide +kernel
theorem dd_R_nameOf_9 : decode cc_R_nameOf 9 = .ok (.getfield 21, 3) := by decide +kernel
theorem dd_R_nameOf_12 : decode cc_R_nameOf 12 = .ok (.iload_n 1, 1) := by decide +kernel
theorem dd_R_nameOf_13 : decode cc_R_nameOf 13 = .ok (.laload, 1) := by decide +kernel
theorem dd_R_nameOf_14 : decode cc_R_nameOf 14 = .ok (.goto 4, 3) := by decide +kernel
theorem dd_R_nameOf_17 : decode cc_R_nameOf 17 = .ok (.lconst 0, 1) := by decide +kernel
theorem dd_R_nameOf_18 : decode cc_R_nameOf 18 = .ok (.lreturn, 1) := by decide +kernel
theorem dd_R_innermost_0 : decode cc_R_innermost 0 = .ok (.aload_n 0, 1) := by decide +kernel
theorem dd_R_innermost_1 : decode cc_R_innermost 1 = .ok (.getfield 29, 3) := by decide +kernel
theorem dd_R_innermost_4 : decode cc_R_innermost 4 = .ok (.ireturn, 1) := by decide +kernel
theorem dd_R_openSuites_0 : decode cc_R_openSuites 0 = .ok (.aload_n 0, 1) := by decide +kernel
theorem dd_R_openSuites_1 : decode cc_R_openSuites 1 = .ok (.getfield 32, 3) := by decide +kernel
theorem dd_R_openSuites_4 : decode cc_R_openSuites 4 = .ok (.ireturn, 1) := by decide +kernel
theorem dd_R_rowDepth_0 : decode cc_R_rowDepth 0 = .ok (.aload_n 0, 1) := by decide +kernel
theorem dd_R_rowDepth_1 : decode cc_R_rowDepth 1 = .ok (.iload_n 1, 1) := by decide +kernel
theorem dd_R_rowDepth_2 : decode cc_R_rowDepth 2 = .ok (.invokevirtual 35, 3) := by decide +kernel
theorem dd_R_rowDepth_5 : decode cc_R_rowDepth 5 = .ok (.ifCond .eq 14, 3) := by decide +kernel
theorem dd_R_rowDepth_8 : decode cc_R_rowDepth 8 = .ok (.aload_n 0, 1) := by decide +kernel
theorem dd_R_rowDepth_9 : decode cc_R_rowDepth 9 = .ok (.getfield 15, 3) := by decide +kernel
theorem dd_R_rowDepth_12 : decode cc_R_rowDepth 12 = .ok (.iload_n 1, 1) := by decide +kernel
theorem dd_R_rowDepth_13 : decode cc_R_rowDepth 13 = .ok (.iaload, 1) := by decide +kernel
theorem dd_R_rowDepth_14 : decode cc_R_rowDepth 14 = .ok (.iconst 1, 1) := by decide +kernel
theorem dd_R_rowDepth_15 : decode cc_R_rowDepth 15 = .ok (.iadd, 1) := by decide +kernel
theorem dd_R_rowDepth_16 : decode cc_R_rowDepth 16 = .ok (.goto 4, 3) := by decide +kernel
theorem dd_R_rowDepth_19 : decode cc_R_rowDepth 19 = .ok (.iconst 0, 1) := by decide +kernel
theorem dd_R_rowDepth_20 : decode cc_R_rowDepth 20 = .ok (.ireturn, 1) := by decide +kernel
theorem dd_R_addNode_0 : decode cc_R_addNode 0 = .ok (.aload_n 0, 1) := by decide +kernel
theorem dd_R_addNode_1 : decode cc_R_addNode 1 = .ok (.getfield 25, 3) := by decide +kernel
theorem dd_R_addNode_4 : decode cc_R_addNode 4 = .ok (.bipush 24, 2) := by decide +kernel
theorem dd_R_addNode_6 : decode cc_R_addNode 6 = .ok (.if_icmp .ge 17, 3) := by decide +kernel
theorem dd_R_addNode_9 : decode cc_R_addNode 9 = .ok (.iload_n 1, 1) := by decide +kernel
theorem dd_R_addNode_10 : decode cc_R_addNode 10 = .ok (.bipush 6, 2) := by decide +kernel
theorem dd_R_addNode_12 : decode cc_R_addNode 12 = .ok (.if_icmp .ne 14, 3) := by decide +kernel
theorem dd_R_addNode_15 : decode cc_R_addNode 15 = .ok (.aload_n 0, 1) := by decide +kernel
theorem dd_R_addNode_16 : decode cc_R_addNode 16 = .ok (.getfield 32, 3) := by decide +kernel
theorem dd_R_addNode_19 : decode cc_R_addNode 19 = .ok (.iconst 3, 1) := by decide +kernel
theorem dd_R_addNode_20 : decode cc_R_addNode 20 = .ok (.if_icmp .lt 6, 3) := by decide +kernel
theorem dd_R_addNode_23 : decode cc_R_addNode 23 = .ok (.bipush (-2), 2) := by decide +kernel
theorem dd_R_addNode_25 : decode cc_R_addNode 25 = .ok (.ireturn, 1) := by decide +kernel
theorem dd_R_addNode_26 : decode cc_R_addNode 26 = .ok (.aload_n 0, 1) := by decide +kernel
theorem dd_R_addNode_27 : decode cc_R_addNode 27 = .ok (.getfield 25, 3) := by decide +kernel
theorem dd_R_addNode_30 : decode cc_R_addNode 30 = .ok (.istore 4, 2) := by decide +kernel
theorem dd_R_addNode_32 : decode cc_R_addNode 32 = .ok (.aload_n 0, 1) := by decide +kernel
theorem dd_R_addNode_33 : decode cc_R_addNode 33 = .ok (.getfield 9, 3) := by decide +kernel
theorem dd_R_addNode_36 : decode cc_R_addNode 36 = .ok (.iload 4, 2) := by decide +kernel
theorem dd_R_addNode_38 : decode cc_R_addNode 38 = .ok (.iload_n 1, 1) := by decide +kernel
theorem dd_R_addNode_39 : decode cc_R_addNode 39 = .ok (.iastore, 1) := by decide +kernel
theorem dd_R_addNode_40 : decode cc_R_addNode 40 = .ok (.aload_n 0, 1) := by decide +kernel
theorem dd_R_addNode_41 : decode cc_R_addNode 41 = .ok (.getfield 15, 3) := by decide +kernel
theorem dd_R_addNode_44 : decode cc_R_addNode 44 = .ok (.iload 4, 2) := by decide +kernel
theorem dd_R_addNode_46 : decode cc_R_addNode 46 = .ok (.aload_n 0, 1) := by decide +kernel
theorem dd_R_addNode_47 : decode cc_R_addNode 47 = .ok (.getfield 32, 3) := by decide +kernel
theorem dd_R_addNode_50 : decode cc_R_addNode 50 = .ok (.iastore, 1) := by decide +kernel
theorem dd_R_addNode_51 : decode cc_R_addNode 51 = .ok (.aload_n 0, 1) := by decide +kernel
theorem dd_R_addNode_52 : decode cc_R_addNode 52 = .ok (.getfield 18, 3) := by decide +kernel
theorem dd_R_addNode_55 : decode cc_R_addNode 55 = .ok (.iload 4, 2) := by decide +kernel
theorem dd_R_addNode_57 : decode cc_R_addNode 57 = .ok (.aload_n 0, 1) := by decide +kernel
theorem dd_R_addNode_58 : decode cc_R_addNode 58 = .ok (.getfield 29, 3) := by decide +kernel
theorem dd_R_addNode_61 : decode cc_R_addNode 61 = .ok (.iastore, 1) := by decide +kernel
theorem dd_R_addNode_62 : decode cc_R_addNode 62 = .ok (.aload_n 0, 1) := by decide +kernel
theorem dd_R_addNode_63 : decode cc_R_addNode 63 = .ok (.getfield 21, 3) := by decide +kernel
theorem dd_R_addNode_66 : decode cc_R_addNode 66 = .ok (.iload 4, 2) := by decide +kernel
theorem dd_R_addNode_68 : decode cc_R_addNode 68 = .ok (.lload_n 2, 1) := by decide +kernel
theorem dd_R_addNode_69 : decode cc_R_addNode 69 = .ok (.lastore, 1) := by decide +kernel
theorem dd_R_addNode_70 : decode cc_R_addNode 70 = .ok (.aload_n 0, 1) := by decide +kernel
theorem dd_R_addNode_71 : decode cc_R_addNode 71 = .ok (.dup, 1) := by decide +kernel
theorem dd_R_addNode_72 : decode cc_R_addNode 72 = .ok (.getfield 25, 3) := by decide +kernel
theorem dd_R_addNode_75 : decode cc_R_addNode 75 = .ok (.iconst 1, 1) := by decide +kernel
theorem dd_R_addNode_76 : decode cc_R_addNode 76 = .ok (.iadd, 1) := by decide +kernel
theorem dd_R_addNode_77 : decode cc_R_addNode 77 = .ok (.putfield 25, 3) := by decide +kernel
theorem dd_R_addNode_80 : decode cc_R_addNode 80 = .ok (.iload_n 1, 1) := by decide +kernel
theorem dd_R_addNode_81 : decode cc_R_addNode 81 = .ok (.bipush 6, 2) := by decide +kernel
theorem dd_R_addNode_83 : decode cc_R_addNode 83 = .ok (.if_icmp .ne 19, 3) := by decide +kernel
theorem dd_R_addNode_86 : decode cc_R_addNode 86 = .ok (.aload_n 0, 1) := by decide +kernel
theorem dd_R_addNode_87 : decode cc_R_addNode 87 = .ok (.iload 4, 2) := by decide +kernel
theorem dd_R_addNode_89 : decode cc_R_addNode 89 = .ok (.putfield 29, 3) := by decide +kernel
theorem dd_R_addNode_92 : decode cc_R_addNode 92 = .ok (.aload_n 0, 1) := by decide +kernel
theorem dd_R_addNode_93 : decode cc_R_addNode 93 = .ok (.dup, 1) := by decide +kernel
theorem dd_R_addNode_94 : decode cc_R_addNode 94 = .ok (.getfield 32, 3) := by decide +kernel
theorem dd_R_addNode_97 : decode cc_R_addNode 97 = .ok (.iconst 1, 1) := by decide +kernel
theorem dd_R_addNode_98 : decode cc_R_addNode 98 = .ok (.iadd, 1) := by decide +kernel
theorem dd_R_addNode_99 : decode cc_R_addNode 99 = .ok (.putfield 32, 3) := by decide +kernel
theorem dd_R_addNode_102 : decode cc_R_addNode 102 = .ok (.iload 4, 2) := by decide +kernel
theorem dd_R_addNode_104 : decode cc_R_addNode 104 = .ok (.ireturn, 1) := by decide +kernel
theorem dd_R_areAttempts_0 : decode cc_R_areAttempts 0 = .ok (.aload_n 0, 1) := by decide +kernel
theorem dd_R_areAttempts_1 : decode cc_R_areAttempts 1 = .ok (.iload_n 1, 1) := by decide +kernel
theorem dd_R_areAttempts_2 : decode cc_R_areAttempts 2 = .ok (.invokevirtual 48, 3) := by decide +kernel
theorem dd_R_areAttempts_5 : decode cc_R_areAttempts 5 = .ok (.ifCond .eq 26, 3) := by decide +kernel
theorem dd_R_areAttempts_8 : decode cc_R_areAttempts 8 = .ok (.aload_n 0, 1) := by decide +kernel
theorem dd_R_areAttempts_9 : decode cc_R_areAttempts 9 = .ok (.iload_n 2, 1) := by decide +kernel
theorem dd_R_areAttempts_10 : decode cc_R_areAttempts 10 = .ok (.invokevirtual 48, 3) := by decide +kernel
theorem dd_R_areAttempts_13 : decode cc_R_areAttempts 13 = .ok (.ifCond .eq 18, 3) := by decide +kernel
theorem dd_R_areAttempts_16 : decode cc_R_areAttempts 16 = .ok (.aload_n 0, 1) := by decide +kernel
theorem dd_R_areAttempts_17 : decode cc_R_areAttempts 17 = .ok (.getfield 15, 3) := by decide +kernel
theorem dd_R_areAttempts_20 : decode cc_R_areAttempts 20 = .ok (.iload_n 1, 1) := by decide +kernel
theorem dd_R_areAttempts_21 : decode cc_R_areAttempts 21 = .ok (.iaload, 1) := by decide +kernel
theorem dd_R_areAttempts_22 : decode cc_R_areAttempts 22 = .ok (.aload_n 0, 1) := by decide +kernel
theorem dd_R_areAttempts_23 : decode cc_R_areAttempts 23 = .ok (.getfield 15, 3) := by decide +kernel
theorem dd_R_areAttempts_26 : decode cc_R_areAttempts 26 = .ok (.iload_n 2, 1) := by decide +kernel
theorem dd_R_areAttempts_27 : decode cc_R_areAttempts 27 = .ok (.iaload, 1) := by decide +kernel
theorem dd_R_areAttempts_28 : decode cc_R_areAttempts 28 = .ok (.if_icmp .eq 5, 3) := by decide +kernel
theorem dd_R_areAttempts_31 : decode cc_R_areAttempts 31 = .ok (.iconst 0, 1) := by decide +kernel
theorem dd_R_areAttempts_32 : decode cc_R_areAttempts 32 = .ok (.ireturn, 1) := by decide +kernel
theorem dd_R_areAttempts_33 : decode cc_R_areAttempts 33 = .ok (.iload_n 1, 1) := by decide +kernel
theorem dd_R_areAttempts_34 : decode cc_R_areAttempts 34 = .ok (.istore_n 3, 1) := by decide +kernel
theorem dd_R_areAttempts_35 : decode cc_R_areAttempts 35 = .ok (.iload_n 2, 1) := by decide +kernel
theorem dd_R_areAttempts_36 : decode cc_R_areAttempts 36 = .ok (.istore 4, 2) := by decide +kernel
theorem dd_R_areAttempts_38 : decode cc_R_areAttempts 38 = .ok (.aload_n 0, 1) := by decide +kernel
theorem dd_R_areAttempts_39 : decode cc_R_areAttempts 39 = .ok (.getfield 15, 3) := by decide +kernel
theorem dd_R_areAttempts_42 : decode cc_R_areAttempts 42 = .ok (.iload_n 1, 1) := by decide +kernel
theorem dd_R_areAttempts_43 : decode cc_R_areAttempts 43 = .ok (.iaload, 1) := by decide +kernel
theorem dd_R_areAttempts_44 : decode cc_R_areAttempts 44 = .ok (.istore 5, 2) := by decide +kernel
theorem dd_R_areAttempts_46 : decode cc_R_areAttempts 46 = .ok (.iload 5, 2) := by decide +kernel
theorem dd_R_areAttempts_48 : decode cc_R_areAttempts 48 = .ok (.ifCond .lt 40, 3) := by decide +kernel
theorem dd_R_areAttempts_51 : decode cc_R_areAttempts 51 = .ok (.aload_n 0, 1) := by decide +kernel
theorem dd_R_areAttempts_52 : decode cc_R_areAttempts 52 = .ok (.iload_n 3, 1) := by decide +kernel
theorem dd_R_areAttempts_53 : decode cc_R_areAttempts 53 = .ok (.invokevirtual 51, 3) := by decide +kernel
theorem dd_R_areAttempts_56 : decode cc_R_areAttempts 56 = .ok (.aload_n 0, 1) := by decide +kernel
theorem dd_R_areAttempts_57 : decode cc_R_areAttempts 57 = .ok (.iload 4, 2) := by decide +kernel
theorem dd_R_areAttempts_59 : decode cc_R_areAttempts 59 = .ok (.invokevirtual 51, 3) := by decide +kernel
theorem dd_R_areAttempts_62 : decode cc_R_areAttempts 62 = .ok (.lcmp, 1) := by decide +kernel
theorem dd_R_areAttempts_63 : decode cc_R_areAttempts 63 = .ok (.ifCond .eq 5, 3) := by decide +kernel
theorem dd_R_areAttempts_66 : decode cc_R_areAttempts 66 = .ok (.iconst 0, 1) := by decide +kernel
theorem dd_R_areAttempts_67 : decode cc_R_areAttempts 67 = .ok (.ireturn, 1) := by decide +kernel
theorem dd_R_areAttempts_68 : decode cc_R_areAttempts 68 = .ok (.aload_n 0, 1) := by decide +kernel
theorem dd_R_areAttempts_69 : decode cc_R_areAttempts 69 = .ok (.iload_n 3, 1) := by decide +kernel
theorem dd_R_areAttempts_70 : decode cc_R_areAttempts 70 = .ok (.invokevirtual 55, 3) := by decide +kernel
theorem dd_R_areAttempts_73 : decode cc_R_areAttempts 73 = .ok (.istore_n 3, 1) := by decide +kernel
theorem dd_R_areAttempts_74 : decode cc_R_areAttempts 74 = .ok (.aload_n 0, 1) := by decide +kernel
theorem dd_R_areAttempts_75 : decode cc_R_areAttempts 75 = .ok (.iload 4, 2) := by decide +kernel
theorem dd_R_areAttempts_77 : decode cc_R_areAttempts 77 = .ok (.invokevirtual 55, 3) := by decide +kernel
theorem dd_R_areAttempts_80 : decode cc_R_areAttempts 80 = .ok (.istore 4, 2) := by decide +kernel
theorem dd_R_areAttempts_82 : decode cc_R_areAttempts 82 = .ok (.iinc 5 (-1), 3) := by decide +kernel
theorem dd_R_areAttempts_85 : decode cc_R_areAttempts 85 = .ok (.goto (-39), 3) := by decide +kernel
theorem dd_R_areAttempts_88 : decode cc_R_areAttempts 88 = .ok (.iconst 1, 1) := by decide +kernel
theorem dd_R_areAttempts_89 : decode cc_R_areAttempts 89 = .ok (.ireturn, 1) := by decide +kernel
theorem dd_R_hasFailedBehind_0 : decode cc_R_hasFailedBehind 0 = .ok (.iload_n 1, 1) := by decide +kernel
theorem dd_R_hasFailedBehind_1 : decode cc_R_hasFailedBehind 1 = .ok (.iconst 1, 1) := by decide +kernel
theorem dd_R_hasFailedBehind_2 : decode cc_R_hasFailedBehind 2 = .ok (.iadd, 1) := by decide +kernel
theorem dd_R_hasFailedBehind_3 : decode cc_R_hasFailedBehind 3 = .ok (.istore_n 2, 1) := by decide +kernel
theorem dd_R_hasFailedBehind_4 : decode cc_R_hasFailedBehind 4 = .ok (.iload_n 2, 1) := by decide +kernel
theorem dd_R_hasFailedBehind_5 : decode cc_R_hasFailedBehind 5 = .ok (.aload_n 0, 1) := by decide +kernel
theorem dd_R_hasFailedBehind_6 : decode cc_R_hasFailedBehind 6 = .ok (.getfield 25, 3) := by decide +kernel
theorem dd_R_hasFailedBehind_9 : decode cc_R_hasFailedBehind 9 = .ok (.if_icmp .ge 21, 3) := by decide +kernel
theorem dd_R_hasFailedBehind_12 : decode cc_R_hasFailedBehind 12 = .ok (.aload_n 0, 1) := by decide +kernel
theorem dd_R_hasFailedBehind_13 : decode cc_R_hasFailedBehind 13 = .ok (.getfield 9, 3) := by decide +kernel
theorem dd_R_hasFailedBehind_16 : decode cc_R_hasFailedBehind 16 = .ok (.iload_n 2, 1) := by decide +kernel
theorem dd_R_hasFailedBehind_17 : decode cc_R_hasFailedBehind 17 = .ok (.iaload, 1) := by decide +kernel
theorem dd_R_hasFailedBehind_18 : decode cc_R_hasFailedBehind 18 = .ok (.iconst 1, 1) := by decide +kernel
theorem dd_R_hasFailedBehind_19 : decode cc_R_hasFailedBehind 19 = .ok (.if_icmp .ne 5, 3) := by decide +kernel
theorem dd_R_hasFailedBehind_22 : decode cc_R_hasFailedBehind 22 = .ok (.iconst 1, 1) := by decide +kernel
theorem dd_R_hasFailedBehind_23 : decode cc_R_hasFailedBehind 23 = .ok (.ireturn, 1) := by decide +kernel
theorem dd_R_hasFailedBehind_24 : decode cc_R_hasFailedBehind 24 = .ok (.iinc 2 1, 3) := by decide +kernel
theorem dd_R_hasFailedBehind_27 : decode cc_R_hasFailedBehind 27 = .ok (.goto (-23), 3) := by decide +kernel
theorem dd_R_hasFailedBehind_30 : decode cc_R_hasFailedBehind 30 = .ok (.iconst 0, 1) := by decide +kernel
theorem dd_R_hasFailedBehind_31 : decode cc_R_hasFailedBehind 31 = .ok (.ireturn, 1) := by decide +kernel
theorem dd_R_countInRow_0 : decode cc_R_countInRow 0 = .ok (.iconst 0, 1) := by decide +kernel
theorem dd_R_countInRow_1 : decode cc_R_countInRow 1 = .ok (.istore_n 3, 1) := by decide +kernel
theorem dd_R_countInRow_2 : decode cc_R_countInRow 2 = .ok (.iconst 0, 1) := by decide +kernel
theorem dd_R_countInRow_3 : decode cc_R_countInRow 3 = .ok (.istore 4, 2) := by decide +kernel
theorem dd_R_countInRow_5 : decode cc_R_countInRow 5 = .ok (.iload 4, 2) := by decide +kernel
theorem dd_R_countInRow_7 : decode cc_R_countInRow 7 = .ok (.iload_n 2, 1) := by decide +kernel
theorem dd_R_countInRow_8 : decode cc_R_countInRow 8 = .ok (.if_icmp .ge 32, 3) := by decide +kernel
theorem dd_R_countInRow_11 : decode cc_R_countInRow 11 = .ok (.iload 4, 2) := by decide +kernel
theorem dd_R_countInRow_13 : decode cc_R_countInRow 13 = .ok (.aload_n 0, 1) := by decide +kernel
theorem dd_R_countInRow_14 : decode cc_R_countInRow 14 = .ok (.getfield 25, 3) := by decide +kernel
theorem dd_R_countInRow_17 : decode cc_R_countInRow 17 = .ok (.if_icmp .ge 23, 3) := by decide +kernel
theorem dd_R_countInRow_20 : decode cc_R_countInRow 20 = .ok (.aload_n 0, 1) := by decide +kernel
theorem dd_R_countInRow_21 : decode cc_R_countInRow 21 = .ok (.getfield 18, 3) := by decide +kernel
theorem dd_R_countInRow_24 : decode cc_R_countInRow 24 = .ok (.iload 4, 2) := by decide +kernel
theorem dd_R_countInRow_26 : decode cc_R_countInRow 26 = .ok (.iaload, 1) := by decide +kernel
theorem dd_R_countInRow_27 : decode cc_R_countInRow 27 = .ok (.iload_n 1, 1) := by decide +kernel
theorem dd_R_countInRow_28 : decode cc_R_countInRow 28 = .ok (.if_icmp .ne 6, 3) := by decide +kernel
theorem dd_R_countInRow_31 : decode cc_R_countInRow 31 = .ok (.iinc 3 1, 3) := by decide +kernel
theorem dd_R_countInRow_34 : decode cc_R_countInRow 34 = .ok (.iinc 4 1, 3) := by decide +kernel
theorem dd_R_countInRow_37 : decode cc_R_countInRow 37 = .ok (.goto (-32), 3) := by decide +kernel
theorem dd_R_countInRow_40 : decode cc_R_countInRow 40 = .ok (.iload_n 3, 1) := by decide +kernel
theorem dd_R_countInRow_41 : decode cc_R_countInRow 41 = .ok (.ireturn, 1) := by decide +kernel
theorem dd_V_init_0 : decode cc_V_init 0 = .ok (.aload_n 0, 1) := by decide +kernel
theorem dd_V_init_1 : decode cc_V_init 1 = .ok (.invokespecial 1, 3) := by decide +kernel
theorem dd_V_init_4 : decode cc_V_init 4 = .ok (.aload_n 0, 1) := by decide +kernel
theorem dd_V_init_5 : decode cc_V_init 5 = .ok (.new 7, 3) := by decide +kernel
theorem dd_V_init_8 : decode cc_V_init 8 = .ok (.dup, 1) := by decide +kernel
theorem dd_V_init_9 : decode cc_V_init 9 = .ok (.invokespecial 9, 3) := by decide +kernel
theorem dd_V_init_12 : decode cc_V_init 12 = .ok (.putfield 10, 3) := by decide +kernel
theorem dd_V_init_15 : decode cc_V_init 15 = .ok (.aload_n 0, 1) := by decide +kernel
theorem dd_V_init_16 : decode cc_V_init 16 = .ok (.new 16, 3) := by decide +kernel
theorem dd_V_init_19 : decode cc_V_init 19 = .ok (.dup, 1) := by decide +kernel
theorem dd_V_init_20 : decode cc_V_init 20 = .ok (.invokespecial 18, 3) := by decide +kernel
theorem dd_V_init_23 : decode cc_V_init 23 = .ok (.putfield 19, 3) := by decide +kernel
theorem dd_V_init_26 : decode cc_V_init 26 = .ok (.aload_n 0, 1) := by decide +kernel
theorem dd_V_init_27 : decode cc_V_init 27 = .ok (.new 16, 3) := by decide +kernel
theorem dd_V_init_30 : decode cc_V_init 30 = .ok (.dup, 1) := by decide +kernel
theorem dd_V_init_31 : decode cc_V_init 31 = .ok (.invokespecial 18, 3) := by decide +kernel
theorem dd_V_init_34 : decode cc_V_init 34 = .ok (.putfield 23, 3) := by decide +kernel
theorem dd_V_init_37 : decode cc_V_init 37 = .ok (.aload_n 0, 1) := by decide +kernel
theorem dd_V_init_38 : decode cc_V_init 38 = .ok (.lconst 0, 1) := by decide +kernel
theorem dd_V_init_39 : decode cc_V_init 39 = .ok (.putfield 28, 3) := by decide +kernel
theorem dd_V_init_42 : decode cc_V_init 42 = .ok (.return_, 1) := by decide +kernel
theorem dd_V_reset_0 : decode cc_V_reset 0 = .ok (.aload_n 0, 1) := by decide +kernel
theorem dd_V_reset_1 : decode cc_V_reset 1 = .ok (.getfield 19, 3) := by decide +kernel
theorem dd_V_reset_4 : decode cc_V_reset 4 = .ok (.invokevirtual 52, 3) := by decide +kernel
theorem dd_V_reset_7 : decode cc_V_reset 7 = .ok (.return_, 1) := by decide +kernel
theorem dd_V_nodes_0 : decode cc_V_nodes 0 = .ok (.aload_n 0, 1) := by decide +kernel
theorem dd_V_nodes_1 : decode cc_V_nodes 1 = .ok (.getfield 19, 3) := by decide +kernel
theorem dd_V_nodes_4 : decode cc_V_nodes 4 = .ok (.invokevirtual 55, 3) := by decide +kernel
theorem dd_V_nodes_7 : decode cc_V_nodes 7 = .ok (.ireturn, 1) := by decide +kernel
theorem dd_V_kind_0 : decode cc_V_kind 0 = .ok (.aload_n 0, 1) := by decide +kernel
theorem dd_V_kind_1 : decode cc_V_kind 1 = .ok (.getfield 19, 3) := by decide +kernel
theorem dd_V_kind_4 : decode cc_V_kind 4 = .ok (.iload_n 1, 1) := by decide +kernel
theorem dd_V_kind_5 : decode cc_V_kind 5 = .ok (.invokevirtual 59, 3) := by decide +kernel
theorem dd_V_kind_8 : decode cc_V_kind 8 = .ok (.ifCond .eq 14, 3) := by decide +kernel
theorem dd_V_kind_11 : decode cc_V_kind 11 = .ok (.aload_n 0, 1) := by decide +kernel
theorem dd_V_kind_12 : decode cc_V_kind 12 = .ok (.getfield 19, 3) := by decide +kernel
theorem dd_V_kind_15 : decode cc_V_kind 15 = .ok (.iload_n 1, 1) := by decide +kernel
theorem dd_V_kind_16 : decode cc_V_kind 16 = .ok (.invokevirtual 63, 3) := by decide +kernel
theorem dd_V_kind_19 : decode cc_V_kind 19 = .ok (.goto 4, 3) := by decide +kernel
theorem dd_V_kind_22 : decode cc_V_kind 22 = .ok (.iconst (-1), 1) := by decide +kernel
theorem dd_V_kind_23 : decode cc_V_kind 23 = .ok (.ireturn, 1) := by decide +kernel
theorem dd_V_depth_0 : decode cc_V_depth 0 = .ok (.aload_n 0, 1) := by decide +kernel
theorem dd_V_depth_1 : decode cc_V_depth 1 = .ok (.getfield 19, 3) := by decide +kernel
theorem dd_V_depth_4 : decode cc_V_depth 4 = .ok (.iload_n 1, 1) := by decide +kernel
theorem dd_V_depth_5 : decode cc_V_depth 5 = .ok (.invokevirtual 59, 3) := by decide +kernel
theorem dd_V_depth_8 : decode cc_V_depth 8 = .ok (.ifCond .eq 14, 3) := by decide +kernel
theorem dd_V_depth_11 : decode cc_V_depth 11 = .ok (.aload_n 0, 1) := by decide +kernel
theorem dd_V_depth_12 : decode cc_V_depth 12 = .ok (.getfield 19, 3) := by decide +kernel
theorem dd_V_depth_15 : decode cc_V_depth 15 = .ok (.iload_n 1, 1) := by decide +kernel
theorem dd_V_depth_16 : decode cc_V_depth 16 = .ok (.invokevirtual 66, 3) := by decide +kernel
theorem dd_V_depth_19 : decode cc_V_depth 19 = .ok (.goto 4, 3) := by decide +kernel
theorem dd_V_depth_22 : decode cc_V_depth 22 = .ok (.iconst (-1), 1) := by decide +kernel
theorem dd_V_depth_23 : decode cc_V_depth 23 = .ok (.ireturn, 1) := by decide +kernel
theorem dd_V_length_0 : decode cc_V_length 0 = .ok (.aload_n 0, 1) := by decide +kernel
theorem dd_V_length_1 : decode cc_V_length 1 = .ok (.getfield 10, 3) := by decide +kernel
theorem dd_V_length_4 : decode cc_V_length 4 = .ok (.invokevirtual 85, 3) := by decide +kernel
theorem dd_V_length_7 : decode cc_V_length 7 = .ok (.ireturn, 1) := by decide +kernel
theorem dd_V_at_0 : decode cc_V_at 0 = .ok (.aload_n 0, 1) := by decide +kernel
theorem dd_V_at_1 : decode cc_V_at 1 = .ok (.getfield 10, 3) := by decide +kernel
theorem dd_V_at_4 : decode cc_V_at 4 = .ok (.iload_n 1, 1) := by decide +kernel
theorem dd_V_at_5 : decode cc_V_at 5 = .ok (.invokevirtual 98, 3) := by decide +kernel
theorem dd_V_at_8 : decode cc_V_at 8 = .ok (.ireturn, 1) := by decide +kernel
theorem dd_V_cut_0 : decode cc_V_cut 0 = .ok (.aload_n 0, 1) := by decide +kernel
theorem dd_V_cut_1 : decode cc_V_cut 1 = .ok (.getfield 10, 3) := by decide +kernel
theorem dd_V_cut_4 : decode cc_V_cut 4 = .ok (.iload_n 1, 1) := by decide +kernel
theorem dd_V_cut_5 : decode cc_V_cut 5 = .ok (.invokevirtual 110, 3) := by decide +kernel
theorem dd_V_cut_8 : decode cc_V_cut 8 = .ok (.ireturn, 1) := by decide +kernel
theorem dd_V_attempts_0 : decode cc_V_attempts 0 = .ok (.aload_n 0, 1) := by decide +kernel
theorem dd_V_attempts_1 : decode cc_V_attempts 1 = .ok (.getfield 19, 3) := by decide +kernel
theorem dd_V_attempts_4 : decode cc_V_attempts 4 = .ok (.iload_n 1, 1) := by decide +kernel
theorem dd_V_attempts_5 : decode cc_V_attempts 5 = .ok (.invokevirtual 113, 3) := by decide +kernel
theorem dd_V_attempts_8 : decode cc_V_attempts 8 = .ok (.ifCond .ne 5, 3) := by decide +kernel
theorem dd_V_attempts_11 : decode cc_V_attempts 11 = .ok (.iconst (-1), 1) := by decide +kernel
theorem dd_V_attempts_12 : decode cc_V_attempts 12 = .ok (.ireturn, 1) := by decide +kernel
theorem dd_V_attempts_13 : decode cc_V_attempts 13 = .ok (.iconst 0, 1) := by decide +kernel
theorem dd_V_attempts_14 : decode cc_V_attempts 14 = .ok (.istore_n 2, 1) := by decide +kernel
theorem dd_V_attempts_15 : decode cc_V_attempts 15 = .ok (.iconst 0, 1) := by decide +kernel
theorem dd_V_attempts_16 : decode cc_V_attempts 16 = .ok (.istore_n 3, 1) := by decide +kernel
theorem dd_V_attempts_17 : decode cc_V_attempts 17 = .ok (.iload_n 3, 1) := by decide +kernel
theorem dd_V_attempts_18 : decode cc_V_attempts 18 = .ok (.aload_n 0, 1) := by decide +kernel
theorem dd_V_attempts_19 : decode cc_V_attempts 19 = .ok (.getfield 19, 3) := by decide +kernel
theorem dd_V_attempts_22 : decode cc_V_attempts 22 = .ok (.invokevirtual 55, 3) := by decide +kernel
theorem dd_V_attempts_25 : decode cc_V_attempts 25 = .ok (.if_icmp .ge 24, 3) := by decide +kernel
theorem dd_V_attempts_28 : decode cc_V_attempts 28 = .ok (.aload_n 0, 1) := by decide +kernel
theorem dd_V_attempts_29 : decode cc_V_attempts 29 = .ok (.getfield 19, 3) := by decide +kernel
theorem dd_V_attempts_32 : decode cc_V_attempts 32 = .ok (.iload_n 1, 1) := by decide +kernel
theorem dd_V_attempts_33 : decode cc_V_attempts 33 = .ok (.iload_n 3, 1) := by decide +kernel
theorem dd_V_attempts_34 : decode cc_V_attempts 34 = .ok (.invokevirtual 116, 3) := by decide +kernel
theorem dd_V_attempts_37 : decode cc_V_attempts 37 = .ok (.ifCond .eq 6, 3) := by decide +kernel
theorem dd_V_attempts_40 : decode cc_V_attempts 40 = .ok (.iinc 2 1, 3) := by decide +kernel
theorem dd_V_attempts_43 : decode cc_V_attempts 43 = .ok (.iinc 3 1, 3) := by decide +kernel
theorem dd_V_attempts_46 : decode cc_V_attempts 46 = .ok (.goto (-29), 3) := by decide +kernel
theorem dd_V_attempts_49 : decode cc_V_attempts 49 = .ok (.iload_n 2, 1) := by decide +kernel
theorem dd_V_attempts_50 : decode cc_V_attempts 50 = .ok (.ireturn, 1) := by decide +kernel
theorem dd_V_flaky_0 : decode cc_V_flaky 0 = .ok (.iconst 0, 1) := by decide +kernel
theorem dd_V_flaky_1 : decode cc_V_flaky 1 = .ok (.istore_n 2, 1) := by decide +kernel
theorem dd_V_flaky_2 : decode cc_V_flaky 2 = .ok (.iconst 0, 1) := by decide +kernel
theorem dd_V_flaky_3 : decode cc_V_flaky 3 = .ok (.istore_n 3, 1) := by decide +kernel
theorem dd_V_flaky_4 : decode cc_V_flaky 4 = .ok (.iload_n 3, 1) := by decide +kernel
theorem dd_V_flaky_5 : decode cc_V_flaky 5 = .ok (.aload_n 0, 1) := by decide +kernel
theorem dd_V_flaky_6 : decode cc_V_flaky 6 = .ok (.getfield 19, 3) := by decide +kernel
theorem dd_V_flaky_9 : decode cc_V_flaky 9 = .ok (.invokevirtual 55, 3) := by decide +kernel
theorem dd_V_flaky_12 : decode cc_V_flaky 12 = .ok (.if_icmp .ge 58, 3) := by decide +kernel
theorem dd_V_flaky_15 : decode cc_V_flaky 15 = .ok (.aload_n 0, 1) := by decide +kernel
theorem dd_V_flaky_16 : decode cc_V_flaky 16 = .ok (.getfield 19, 3) := by decide +kernel
theorem dd_V_flaky_19 : decode cc_V_flaky 19 = .ok (.iload_n 1, 1) := by decide +kernel
theorem dd_V_flaky_20 : decode cc_V_flaky 20 = .ok (.iload_n 3, 1) := by decide +kernel
theorem dd_V_flaky_21 : decode cc_V_flaky 21 = .ok (.invokevirtual 116, 3) := by decide +kernel
theorem dd_V_flaky_24 : decode cc_V_flaky 24 = .ok (.ifCond .eq 40, 3) := by decide +kernel
theorem dd_V_flaky_27 : decode cc_V_flaky 27 = .ok (.aload_n 0, 1) := by decide +kernel
theorem dd_V_flaky_28 : decode cc_V_flaky 28 = .ok (.getfield 19, 3) := by decide +kernel
theorem dd_V_flaky_31 : decode cc_V_flaky 31 = .ok (.iload_n 3, 1) := by decide +kernel
theorem dd_V_flaky_32 : decode cc_V_flaky 32 = .ok (.invokevirtual 63, 3) := by decide +kernel
theorem dd_V_flaky_35 : decode cc_V_flaky 35 = .ok (.istore 4, 2) := by decide +kernel
theorem dd_V_flaky_37 : decode cc_V_flaky 37 = .ok (.iload_n 2, 1) := by decide +kernel
theorem dd_V_flaky_38 : decode cc_V_flaky 38 = .ok (.ifCond .eq 10, 3) := by decide +kernel
theorem dd_V_flaky_41 : decode cc_V_flaky 41 = .ok (.iload 4, 2) := by decide +kernel
theorem dd_V_flaky_43 : decode cc_V_flaky 43 = .ok (.ifCond .ne 5, 3) := by decide +kernel
theorem dd_V_flaky_46 : decode cc_V_flaky 46 = .ok (.iconst 1, 1) := by decide +kernel
theorem dd_V_flaky_47 : decode cc_V_flaky 47 = .ok (.ireturn, 1) := by decide +kernel
theorem dd_V_flaky_48 : decode cc_V_flaky 48 = .ok (.iload_n 2, 1) := by decide +kernel
theorem dd_V_flaky_49 : decode cc_V_flaky 49 = .ok (.ifCond .ne 9, 3) := by decide +kernel
theorem dd_V_flaky_52 : decode cc_V_flaky 52 = .ok (.iload 4, 2) := by decide +kernel
theorem dd_V_flaky_54 : decode cc_V_flaky 54 = .ok (.iconst 1, 1) := by decide +kernel
theorem dd_V_flaky_55 : decode cc_V_flaky 55 = .ok (.if_icmp .ne 7, 3) := by decide +kernel
theorem dd_V_flaky_58 : decode cc_V_flaky 58 = .ok (.iconst 1, 1) := by decide +kernel
theorem dd_V_flaky_59 : decode cc_V_flaky 59 = .ok (.goto 4, 3) := by decide +kernel
theorem dd_V_flaky_62 : decode cc_V_flaky 62 = .ok (.iconst 0, 1) := by decide +kernel
theorem dd_V_flaky_63 : decode cc_V_flaky 63 = .ok (.istore_n 2, 1) := by decide +kernel
theorem dd_V_flaky_64 : decode cc_V_flaky 64 = .ok (.iinc 3 1, 3) := by decide +kernel
theorem dd_V_flaky_67 : decode cc_V_flaky 67 = .ok (.goto (-63), 3) := by decide +kernel
theorem dd_V_flaky_70 : decode cc_V_flaky 70 = .ok (.iconst 0, 1) := by decide +kernel
theorem dd_V_flaky_71 : decode cc_V_flaky 71 = .ok (.ireturn, 1) := by decide +kernel
theorem dd_V_addWithBegunName_0 : decode cc_V_addWithBegunName 0 = .ok (.aload_n 0, 1) := by decide +kernel
theorem dd_V_addWithBegunName_1 : decode cc_V_addWithBegunName 1 = .ok (.getfield 19, 3) := by decide +kernel
theorem dd_V_addWithBegunName_4 : decode cc_V_addWithBegunName 4 = .ok (.iload_n 1, 1) := by decide +kernel
theorem dd_V_addWithBegunName_5 : decode cc_V_addWithBegunName 5 = .ok (.aload_n 0, 1) := by decide +kernel
theorem dd_V_addWithBegunName_6 : decode cc_V_addWithBegunName 6 = .ok (.getfield 28, 3) := by decide +kernel
theorem dd_V_addWithBegunName_9 : decode cc_V_addWithBegunName 9 = .ok (.invokevirtual 120, 3) := by decide +kernel
theorem dd_V_addWithBegunName_12 : decode cc_V_addWithBegunName 12 = .ok (.istore_n 2, 1) := by decide +kernel
theorem dd_V_addWithBegunName_13 : decode cc_V_addWithBegunName 13 = .ok (.iload_n 2, 1) := by decide +kernel
theorem dd_V_addWithBegunName_14 : decode cc_V_addWithBegunName 14 = .ok (.ifCond .lt 8, 3) := by decide +kernel
theorem dd_V_addWithBegunName_17 : decode cc_V_addWithBegunName 17 = .ok (.aload_n 0, 1) := by decide +kernel
theorem dd_V_addWithBegunName_18 : decode cc_V_addWithBegunName 18 = .ok (.lconst 0, 1) := by decide +kernel
theorem dd_V_addWithBegunName_19 : decode cc_V_addWithBegunName 19 = .ok (.putfield 28, 3) := by decide +kernel
theorem dd_V_addWithBegunName_22 : decode cc_V_addWithBegunName 22 = .ok (.iload_n 2, 1) := by decide +kernel
theorem dd_V_addWithBegunName_23 : decode cc_V_addWithBegunName 23 = .ok (.ireturn, 1) := by decide +kernel
theorem dd_V_isPlain_0 : decode cc_V_isPlain 0 = .ok (.iload_n 0, 1) := by decide +kernel
theorem dd_V_isPlain_1 : decode cc_V_isPlain 1 = .ok (.bipush 32, 2) := by decide +kernel
theorem dd_V_isPlain_3 : decode cc_V_isPlain 3 = .ok (.if_icmp .lt 13, 3) := by decide +kernel
theorem dd_V_isPlain_6 : decode cc_V_isPlain 6 = .ok (.iload_n 0, 1) := by decide +kernel
theorem dd_V_isPlain_7 : decode cc_V_isPlain 7 = .ok (.bipush 126, 2) := by decide +kernel
theorem dd_V_isPlain_9 : decode cc_V_isPlain 9 = .ok (.if_icmp .gt 7, 3) := by decide +kernel
theorem dd_V_isPlain_12 : decode cc_V_isPlain 12 = .ok (.iconst 1, 1) := by decide +kernel
theorem dd_V_isPlain_13 : decode cc_V_isPlain 13 = .ok (.goto 4, 3) := by decide +kernel
theorem dd_V_isPlain_16 : decode cc_V_isPlain 16 = .ok (.iconst 0, 1) := by decide +kernel
theorem dd_V_isPlain_17 : decode cc_V_isPlain 17 = .ok (.ireturn, 1) := by decide +kernel
theorem dd_V_isOfPages_0 : decode cc_V_isOfPages 0 = .ok (.iload_n 0, 1) := by decide +kernel
theorem dd_V_isOfPages_1 : decode cc_V_isOfPages 1 = .ok (.bipush 10, 2) := by decide +kernel
theorem dd_V_isOfPages_3 : decode cc_V_isOfPages 3 = .ok (.if_icmp .eq 10, 3) := by decide +kernel
theorem dd_V_isOfPages_6 : decode cc_V_isOfPages 6 = .ok (.iload_n 0, 1) := by decide +kernel
theorem dd_V_isOfPages_7 : decode cc_V_isOfPages 7 = .ok (.invokestatic 36, 3) := by decide +kernel
theorem dd_V_isOfPages_10 : decode cc_V_isOfPages 10 = .ok (.ifCond .eq 7, 3) := by decide +kernel
theorem dd_V_isOfPages_13 : decode cc_V_isOfPages 13 = .ok (.iconst 1, 1) := by decide +kernel
theorem dd_V_isOfPages_14 : decode cc_V_isOfPages 14 = .ok (.goto 4, 3) := by decide +kernel
theorem dd_V_isOfPages_17 : decode cc_V_isOfPages 17 = .ok (.iconst 0, 1) := by decide +kernel
theorem dd_V_isOfPages_18 : decode cc_V_isOfPages 18 = .ok (.ireturn, 1) := by decide +kernel
theorem dd_M_init_0 : decode cc_M_init 0 = .ok (.aload_n 0, 1) := by decide +kernel
theorem dd_M_init_1 : decode cc_M_init 1 = .ok (.invokespecial 1, 3) := by decide +kernel
theorem dd_M_init_4 : decode cc_M_init 4 = .ok (.aload_n 0, 1) := by decide +kernel
theorem dd_M_init_5 : decode cc_M_init 5 = .ok (.bipush 6, 2) := by decide +kernel
theorem dd_M_init_7 : decode cc_M_init 7 = .ok (.newarray .char, 2) := by decide +kernel
theorem dd_M_init_9 : decode cc_M_init 9 = .ok (.putfield 7, 3) := by decide +kernel
theorem dd_M_init_12 : decode cc_M_init 12 = .ok (.aload_n 0, 1) := by decide +kernel
theorem dd_M_init_13 : decode cc_M_init 13 = .ok (.iconst 2, 1) := by decide +kernel
theorem dd_M_init_14 : decode cc_M_init 14 = .ok (.newarray .int, 2) := by decide +kernel
theorem dd_M_init_16 : decode cc_M_init 16 = .ok (.putfield 13, 3) := by decide +kernel
theorem dd_M_init_19 : decode cc_M_init 19 = .ok (.aload_n 0, 1) := by decide +kernel
theorem dd_M_init_20 : decode cc_M_init 20 = .ok (.bipush 48, 2) := by decide +kernel
theorem dd_M_init_22 : decode cc_M_init 22 = .ok (.newarray .int, 2) := by decide +kernel
theorem dd_M_init_24 : decode cc_M_init 24 = .ok (.putfield 17, 3) := by decide +kernel
theorem dd_M_init_27 : decode cc_M_init 27 = .ok (.aload_n 0, 1) := by decide +kernel
theorem dd_M_init_28 : decode cc_M_init 28 = .ok (.bipush 48, 2) := by decide +kernel
theorem dd_M_init_30 : decode cc_M_init 30 = .ok (.newarray .int, 2) := by decide +kernel
theorem dd_M_init_32 : decode cc_M_init 32 = .ok (.putfield 20, 3) := by decide +kernel
theorem dd_M_init_35 : decode cc_M_init 35 = .ok (.aload_n 0, 1) := by decide +kernel
theorem dd_M_init_36 : decode cc_M_init 36 = .ok (.bipush 48, 2) := by decide +kernel
theorem dd_M_init_38 : decode cc_M_init 38 = .ok (.newarray .boolean, 2) := by decide +kernel
theorem dd_M_init_40 : decode cc_M_init 40 = .ok (.putfield 23, 3) := by decide +kernel
theorem dd_M_init_43 : decode cc_M_init 43 = .ok (.aload_n 0, 1) := by decide +kernel
theorem dd_M_init_44 : decode cc_M_init 44 = .ok (.bipush 48, 2) := by decide +kernel
theorem dd_M_init_46 : decode cc_M_init 46 = .ok (.newarray .int, 2) := by decide +kernel
theorem dd_M_init_48 : decode cc_M_init 48 = .ok (.putfield 27, 3) := by decide +kernel
theorem dd_M_init_51 : decode cc_M_init 51 = .ok (.aload_n 0, 1) := by decide +kernel
theorem dd_M_init_52 : decode cc_M_init 52 = .ok (.sipush 288, 3) := by decide +kernel
theorem dd_M_init_55 : decode cc_M_init 55 = .ok (.newarray .char, 2) := by decide +kernel
theorem dd_M_init_57 : decode cc_M_init 57 = .ok (.putfield 30, 3) := by decide +kernel
theorem dd_M_init_60 : decode cc_M_init 60 = .ok (.aload_n 0, 1) := by decide +kernel
theorem dd_M_init_61 : decode cc_M_init 61 = .ok (.sipush 3000, 3) := by decide +kernel
theorem dd_M_init_64 : decode cc_M_init 64 = .ok (.newarray .char, 2) := by decide +kernel
theorem dd_M_init_66 : decode cc_M_init 66 = .ok (.putfield 33, 3) := by decide +kernel
theorem dd_M_init_69 : decode cc_M_init 69 = .ok (.aload_n 0, 1) := by decide +kernel
theorem dd_M_init_70 : decode cc_M_init 70 = .ok (.bipush 6, 2) := by decide +kernel
theorem dd_M_init_72 : decode cc_M_init 72 = .ok (.newarray .char, 2) := by decide +kernel
theorem dd_M_init_74 : decode cc_M_init 74 = .ok (.putfield 36, 3) := by decide +kernel
theorem dd_M_init_77 : decode cc_M_init 77 = .ok (.return_, 1) := by decide +kernel
theorem dd_M_part_0 : decode cc_M_part 0 = .ok (.iload_n 0, 1) := by decide +kernel
theorem dd_M_part_1 : decode cc_M_part 1 = .ok (.tableswitch 165 0 8 #[51, 65, 77, 89, 101, 113, 125, 139, 151], 51) := by decide +kernel
theorem dd_M_part_52 : decode cc_M_part 52 = .ok (.iload_n 1, 1) := by decide +kernel
theorem dd_M_part_53 : decode cc_M_part 53 = .ok (.ifCond .ne 9, 3) := by decide +kernel
theorem dd_M_part_56 : decode cc_M_part 56 = .ok (.ldc2_w 39, 3) := by decide +kernel
theorem dd_M_part_59 : decode cc_M_part 59 = .ok (.goto 6, 3) := by decide +kernel
theorem dd_M_part_62 : decode cc_M_part 62 = .ok (.ldc2_w 41, 3) := by decide +kernel
theorem dd_M_part_65 : decode cc_M_part 65 = .ok (.lreturn, 1) := by decide +kernel
theorem dd_M_part_66 : decode cc_M_part 66 = .ok (.iload_n 1, 1) := by decide +kernel
theorem dd_M_part_67 : decode cc_M_part 67 = .ok (.ifCond .ne 9, 3) := by decide +kernel
theorem dd_M_part_70 : decode cc_M_part 70 = .ok (.ldc2_w 43, 3) := by decide +kernel
theorem dd_M_part_73 : decode cc_M_part 73 = .ok (.goto 4, 3) := by decide +kernel
theorem dd_M_part_76 : decode cc_M_part 76 = .ok (.lconst 0, 1) := by decide +kernel
theorem dd_M_part_77 : decode cc_M_part 77 = .ok (.lreturn, 1) := by decide +kernel
theorem dd_M_part_78 : decode cc_M_part 78 = .ok (.iload_n 1, 1) := by decide +kernel
theorem dd_M_part_79 : decode cc_M_part 79 = .ok (.ifCond .ne 9, 3) := by decide +kernel
theorem dd_M_part_82 : decode cc_M_part 82 = .ok (.ldc2_w 45, 3) := by decide +kernel
theorem dd_M_part_85 : decode cc_M_part 85 = .ok (.goto 4, 3) := by decide +kernel
theorem dd_M_part_88 : decode cc_M_part 88 = .ok (.lconst 0, 1) := by decide +kernel
theorem dd_M_part_89 : decode cc_M_part 89 = .ok (.lreturn, 1) := by decide +kernel
theorem dd_M_part_90 : decode cc_M_part 90 = .ok (.iload_n 1, 1) := by decide +kernel
theorem dd_M_part_91 : decode cc_M_part 91 = .ok (.ifCond .ne 9, 3) := by decide +kernel
theorem dd_M_part_94 : decode cc_M_part 94 = .ok (.ldc2_w 47, 3) := by decide +kernel
theorem dd_M_part_97 : decode cc_M_part 97 = .ok (.goto 4, 3) := by decide +kernel
theorem dd_M_part_100 : decode cc_M_part 100 = .ok (.lconst 0, 1) := by decide +kernel
theorem dd_M_part_101 : decode cc_M_part 101 = .ok (.lreturn, 1) := by decide +kernel
theorem dd_M_part_102 : decode cc_M_part 102 = .ok (.iload_n 1, 1) := by decide +kernel
theorem dd_M_part_103 : decode cc_M_part 103 = .ok (.ifCond .ne 9, 3) := by decide +kernel
theorem dd_M_part_106 : decode cc_M_part 106 = .ok (.ldc2_w 49, 3) := by decide +kernel
theorem dd_M_part_109 : decode cc_M_part 109 = .ok (.goto 4, 3) := by decide +kernel
theorem dd_M_part_112 : decode cc_M_part 112 = .ok (.lconst 0, 1) := by decide +kernel
theorem dd_M_part_113 : decode cc_M_part 113 = .ok (.lreturn, 1) := by decide +kernel
theorem dd_M_part_114 : decode cc_M_part 114 = .ok (.iload_n 1, 1) := by decide +kernel
theorem dd_M_part_115 : decode cc_M_part 115 = .ok (.ifCond .ne 9, 3) := by decide +kernel
theorem dd_M_part_118 : decode cc_M_part 118 = .ok (.ldc2_w 51, 3) := by decide +kernel
theorem dd_M_part_121 : decode cc_M_part 121 = .ok (.goto 4, 3) := by decide +kernel
theorem dd_M_part_124 : decode cc_M_part 124 = .ok (.lconst 0, 1) := by decide +kernel
theorem dd_M_part_125 : decode cc_M_part 125 = .ok (.lreturn, 1) := by decide +kernel
theorem dd_M_part_126 : decode cc_M_part 126 = .ok (.iload_n 1, 1) := by decide +kernel
theorem dd_M_part_127 : decode cc_M_part 127 = .ok (.ifCond .ne 9, 3) := by decide +kernel
theorem dd_M_part_130 : decode cc_M_part 130 = .ok (.ldc2_w 53, 3) := by decide +kernel
theorem dd_M_part_133 : decode cc_M_part 133 = .ok (.goto 6, 3) := by decide +kernel
theorem dd_M_part_136 : decode cc_M_part 136 = .ok (.ldc2_w 55, 3) := by decide +kernel
theorem dd_M_part_139 : decode cc_M_part 139 = .ok (.lreturn, 1) := by decide +kernel
theorem dd_M_part_140 : decode cc_M_part 140 = .ok (.iload_n 1, 1) := by decide +kernel
theorem dd_M_part_141 : decode cc_M_part 141 = .ok (.ifCond .ne 9, 3) := by decide +kernel
theorem dd_M_part_144 : decode cc_M_part 144 = .ok (.ldc2_w 57, 3) := by decide +kernel
theorem dd_M_part_147 : decode cc_M_part 147 = .ok (.goto 4, 3) := by decide +kernel
theorem dd_M_part_150 : decode cc_M_part 150 = .ok (.lconst 0, 1) := by decide +kernel
theorem dd_M_part_151 : decode cc_M_part 151 = .ok (.lreturn, 1) := by decide +kernel
theorem dd_M_part_152 : decode cc_M_part 152 = .ok (.iload_n 1, 1) := by decide +kernel
theorem dd_M_part_153 : decode cc_M_part 153 = .ok (.ifCond .ne 9, 3) := by decide +kernel
theorem dd_M_part_156 : decode cc_M_part 156 = .ok (.ldc2_w 59, 3) := by decide +kernel
theorem dd_M_part_159 : decode cc_M_part 159 = .ok (.goto 6, 3) := by decide +kernel
theorem dd_M_part_162 : decode cc_M_part 162 = .ok (.ldc2_w 61, 3) := by decide +kernel
theorem dd_M_part_165 : decode cc_M_part 165 = .ok (.lreturn, 1) := by decide +kernel
theorem dd_M_part_166 : decode cc_M_part 166 = .ok (.lconst 0, 1) := by decide +kernel
theorem dd_M_part_167 : decode cc_M_part 167 = .ok (.lreturn, 1) := by decide +kernel
theorem dd_M_letterOf_0 : decode cc_M_letterOf 0 = .ok (.iload_n 0, 1) := by decide +kernel
theorem dd_M_letterOf_1 : decode cc_M_letterOf 1 = .ok (.iload_n 1, 1) := by decide +kernel
theorem dd_M_letterOf_2 : decode cc_M_letterOf 2 = .ok (.bipush 8, 2) := by decide +kernel
theorem dd_M_letterOf_4 : decode cc_M_letterOf 4 = .ok (.idiv, 1) := by decide +kernel
theorem dd_M_letterOf_5 : decode cc_M_letterOf 5 = .ok (.invokestatic 63, 3) := by decide +kernel
theorem dd_M_letterOf_8 : decode cc_M_letterOf 8 = .ok (.lstore_n 2, 1) := by decide +kernel
theorem dd_M_letterOf_9 : decode cc_M_letterOf 9 = .ok (.iload_n 1, 1) := by decide +kernel
theorem dd_M_letterOf_10 : decode cc_M_letterOf 10 = .ok (.bipush 15, 2) := by decide +kernel
theorem dd_M_letterOf_12 : decode cc_M_letterOf 12 = .ok (.if_icmp .le 7, 3) := by decide +kernel
theorem dd_M_letterOf_15 : decode cc_M_letterOf 15 = .ok (.iconst 0, 1) := by decide +kernel
theorem dd_M_letterOf_16 : decode cc_M_letterOf 16 = .ok (.goto 18, 3) := by decide +kernel
theorem dd_M_letterOf_19 : decode cc_M_letterOf 19 = .ok (.lload_n 2, 1) := by decide +kernel
theorem dd_M_letterOf_20 : decode cc_M_letterOf 20 = .ok (.bipush 8, 2) := by decide +kernel
theorem dd_M_letterOf_22 : decode cc_M_letterOf 22 = .ok (.iload_n 1, 1) := by decide +kernel
theorem dd_M_letterOf_23 : decode cc_M_letterOf 23 = .ok (.bipush 8, 2) := by decide +kernel
theorem dd_M_letterOf_25 : decode cc_M_letterOf 25 = .ok (.irem, 1) := by decide +kernel
theorem dd_M_letterOf_26 : decode cc_M_letterOf 26 = .ok (.imul, 1) := by decide +kernel
theorem dd_M_letterOf_27 : decode cc_M_letterOf 27 = .ok (.lshr, 1) := by decide +kernel
theorem dd_M_letterOf_28 : decode cc_M_letterOf 28 = .ok (.ldc2_w 67, 3) := by decide +kernel
theorem dd_M_letterOf_31 : decode cc_M_letterOf 31 = .ok (.land, 1) := by decide +kernel
theorem dd_M_letterOf_32 : decode cc_M_letterOf 32 = .ok (.l2i, 1) := by decide +kernel
theorem dd_M_letterOf_33 : decode cc_M_letterOf 33 = .ok (.i2c, 1) := by decide +kernel
theorem dd_M_letterOf_34 : decode cc_M_letterOf 34 = .ok (.ireturn, 1) := by decide +kernel
theorem dd_M_letter_0 : decode cc_M_letter 0 = .ok (.iload_n 1, 1) := by decide +kernel
theorem dd_M_letter_1 : decode cc_M_letter 1 = .ok (.bipush 32, 2) := by decide +kernel
theorem dd_M_letter_3 : decode cc_M_letter 3 = .ok (.if_icmp .lt 18, 3) := by decide +kernel
theorem dd_M_letter_6 : decode cc_M_letter 6 = .ok (.iload_n 1, 1) := by decide +kernel
theorem dd_M_letter_7 : decode cc_M_letter 7 = .ok (.bipush 126, 2) := by decide +kernel
theorem dd_M_letter_9 : decode cc_M_letter 9 = .ok (.if_icmp .gt 12, 3) := by decide +kernel
theorem dd_M_letter_12 : decode cc_M_letter 12 = .ok (.aload_n 0, 1) := by decide +kernel
theorem dd_M_letter_13 : decode cc_M_letter 13 = .ok (.getfield 69, 3) := by decide +kernel
theorem dd_M_letter_16 : decode cc_M_letter 16 = .ok (.bipush 6, 2) := by decide +kernel
theorem dd_M_letter_18 : decode cc_M_letter 18 = .ok (.if_icmp .ne 5, 3) := by decide +kernel
theorem dd_M_letter_21 : decode cc_M_letter 21 = .ok (.iconst 0, 1) := by decide +kernel
theorem dd_M_letter_22 : decode cc_M_letter 22 = .ok (.ireturn, 1) := by decide +kernel
theorem dd_M_letter_23 : decode cc_M_letter 23 = .ok (.aload_n 0, 1) := by decide +kernel
theorem dd_M_letter_24 : decode cc_M_letter 24 = .ok (.getfield 7, 3) := by decide +kernel
theorem dd_M_letter_27 : decode cc_M_letter 27 = .ok (.aload_n 0, 1) := by decide +kernel
theorem dd_M_letter_28 : decode cc_M_letter 28 = .ok (.getfield 69, 3) := by decide +kernel
theorem dd_M_letter_31 : decode cc_M_letter 31 = .ok (.iload_n 1, 1) := by decide +kernel
theorem dd_M_letter_32 : decode cc_M_letter 32 = .ok (.castore, 1) := by decide +kernel
theorem dd_M_letter_33 : decode cc_M_letter 33 = .ok (.aload_n 0, 1) := by decide +kernel
theorem dd_M_letter_34 : decode cc_M_letter 34 = .ok (.dup, 1) := by decide +kernel
theorem dd_M_letter_35 : decode cc_M_letter 35 = .ok (.getfield 69, 3) := by decide +kernel
theorem dd_M_letter_38 : decode cc_M_letter 38 = .ok (.iconst 1, 1) := by decide +kernel
end
section
theorem dd_M_letter_39 : decode cc_M_letter 39 = .ok (.iadd, 1) := by decide +kernel
theorem dd_M_letter_40 : decode cc_M_letter 40 = .ok (.putfield 69, 3) := by decide +kernel
theorem dd_M_letter_43 : decode cc_M_letter 43 = .ok (.iconst 1, 1) := by decide +kernel
theorem dd_M_letter_44 : decode cc_M_letter 44 = .ok (.ireturn, 1) := by decide +kernel
theorem dd_M_innermost_0 : decode cc_M_innermost 0 = .ok (.iconst (-1), 1) := by decide +kernel
theorem dd_M_innermost_1 : decode cc_M_innermost 1 = .ok (.istore_n 2, 1) := by decide +kernel
theorem dd_M_innermost_2 : decode cc_M_innermost 2 = .ok (.iconst 0, 1) := by decide +kernel
theorem dd_M_innermost_3 : decode cc_M_innermost 3 = .ok (.istore_n 3, 1) := by decide +kernel
theorem dd_M_innermost_4 : decode cc_M_innermost 4 = .ok (.iload_n 3, 1) := by decide +kernel
theorem dd_M_innermost_5 : decode cc_M_innermost 5 = .ok (.aload_n 0, 1) := by decide +kernel
theorem dd_M_innermost_6 : decode cc_M_innermost 6 = .ok (.getfield 13, 3) := by decide +kernel
theorem dd_M_innermost_9 : decode cc_M_innermost 9 = .ok (.iload_n 1, 1) := by decide +kernel
theorem dd_M_innermost_10 : decode cc_M_innermost 10 = .ok (.iaload, 1) := by decide +kernel
theorem dd_M_innermost_11 : decode cc_M_innermost 11 = .ok (.if_icmp .ge 44, 3) := by decide +kernel
theorem dd_M_innermost_14 : decode cc_M_innermost 14 = .ok (.aload_n 0, 1) := by decide +kernel
theorem dd_M_innermost_15 : decode cc_M_innermost 15 = .ok (.getfield 20, 3) := by decide +kernel
theorem dd_M_innermost_18 : decode cc_M_innermost 18 = .ok (.bipush 24, 2) := by decide +kernel
theorem dd_M_innermost_20 : decode cc_M_innermost 20 = .ok (.iload_n 1, 1) := by decide +kernel
theorem dd_M_innermost_21 : decode cc_M_innermost 21 = .ok (.imul, 1) := by decide +kernel
theorem dd_M_innermost_22 : decode cc_M_innermost 22 = .ok (.iload_n 3, 1) := by decide +kernel
theorem dd_M_innermost_23 : decode cc_M_innermost 23 = .ok (.iadd, 1) := by decide +kernel
theorem dd_M_innermost_24 : decode cc_M_innermost 24 = .ok (.iaload, 1) := by decide +kernel
theorem dd_M_innermost_25 : decode cc_M_innermost 25 = .ok (.iconst 4, 1) := by decide +kernel
theorem dd_M_innermost_26 : decode cc_M_innermost 26 = .ok (.if_icmp .ne 21, 3) := by decide +kernel
theorem dd_M_innermost_29 : decode cc_M_innermost 29 = .ok (.aload_n 0, 1) := by decide +kernel
theorem dd_M_innermost_30 : decode cc_M_innermost 30 = .ok (.getfield 23, 3) := by decide +kernel
theorem dd_M_innermost_33 : decode cc_M_innermost 33 = .ok (.bipush 24, 2) := by decide +kernel
theorem dd_M_innermost_35 : decode cc_M_innermost 35 = .ok (.iload_n 1, 1) := by decide +kernel
theorem dd_M_innermost_36 : decode cc_M_innermost 36 = .ok (.imul, 1) := by decide +kernel
theorem dd_M_innermost_37 : decode cc_M_innermost 37 = .ok (.iload_n 3, 1) := by decide +kernel
theorem dd_M_innermost_38 : decode cc_M_innermost 38 = .ok (.iadd, 1) := by decide +kernel
theorem dd_M_innermost_39 : decode cc_M_innermost 39 = .ok (.baload, 1) := by decide +kernel
theorem dd_M_innermost_40 : decode cc_M_innermost 40 = .ok (.ifCond .ne 7, 3) := by decide +kernel
theorem dd_M_innermost_43 : decode cc_M_innermost 43 = .ok (.iload_n 3, 1) := by decide +kernel
theorem dd_M_innermost_44 : decode cc_M_innermost 44 = .ok (.goto 4, 3) := by decide +kernel
theorem dd_M_innermost_47 : decode cc_M_innermost 47 = .ok (.iload_n 2, 1) := by decide +kernel
theorem dd_M_innermost_48 : decode cc_M_innermost 48 = .ok (.istore_n 2, 1) := by decide +kernel
theorem dd_M_innermost_49 : decode cc_M_innermost 49 = .ok (.iinc 3 1, 3) := by decide +kernel
theorem dd_M_innermost_52 : decode cc_M_innermost 52 = .ok (.goto (-48), 3) := by decide +kernel
theorem dd_M_innermost_55 : decode cc_M_innermost 55 = .ok (.iload_n 2, 1) := by decide +kernel
theorem dd_M_innermost_56 : decode cc_M_innermost 56 = .ok (.ireturn, 1) := by decide +kernel
theorem dd_M_depthOf_0 : decode cc_M_depthOf 0 = .ok (.iconst 0, 1) := by decide +kernel
theorem dd_M_depthOf_1 : decode cc_M_depthOf 1 = .ok (.istore_n 3, 1) := by decide +kernel
theorem dd_M_depthOf_2 : decode cc_M_depthOf 2 = .ok (.aload_n 0, 1) := by decide +kernel
theorem dd_M_depthOf_3 : decode cc_M_depthOf 3 = .ok (.getfield 17, 3) := by decide +kernel
theorem dd_M_depthOf_6 : decode cc_M_depthOf 6 = .ok (.bipush 24, 2) := by decide +kernel
theorem dd_M_depthOf_8 : decode cc_M_depthOf 8 = .ok (.iload_n 1, 1) := by decide +kernel
theorem dd_M_depthOf_9 : decode cc_M_depthOf 9 = .ok (.imul, 1) := by decide +kernel
theorem dd_M_depthOf_10 : decode cc_M_depthOf 10 = .ok (.iload_n 2, 1) := by decide +kernel
theorem dd_M_depthOf_11 : decode cc_M_depthOf 11 = .ok (.iadd, 1) := by decide +kernel
theorem dd_M_depthOf_12 : decode cc_M_depthOf 12 = .ok (.iaload, 1) := by decide +kernel
theorem dd_M_depthOf_13 : decode cc_M_depthOf 13 = .ok (.istore 4, 2) := by decide +kernel
theorem dd_M_depthOf_15 : decode cc_M_depthOf 15 = .ok (.iload 4, 2) := by decide +kernel
theorem dd_M_depthOf_17 : decode cc_M_depthOf 17 = .ok (.ifCond .lt 23, 3) := by decide +kernel
theorem dd_M_depthOf_20 : decode cc_M_depthOf 20 = .ok (.iinc 3 1, 3) := by decide +kernel
theorem dd_M_depthOf_23 : decode cc_M_depthOf 23 = .ok (.aload_n 0, 1) := by decide +kernel
theorem dd_M_depthOf_24 : decode cc_M_depthOf 24 = .ok (.getfield 17, 3) := by decide +kernel
theorem dd_M_depthOf_27 : decode cc_M_depthOf 27 = .ok (.bipush 24, 2) := by decide +kernel
theorem dd_M_depthOf_29 : decode cc_M_depthOf 29 = .ok (.iload_n 1, 1) := by decide +kernel
theorem dd_M_depthOf_30 : decode cc_M_depthOf 30 = .ok (.imul, 1) := by decide +kernel
theorem dd_M_depthOf_31 : decode cc_M_depthOf 31 = .ok (.iload 4, 2) := by decide +kernel
theorem dd_M_depthOf_33 : decode cc_M_depthOf 33 = .ok (.iadd, 1) := by decide +kernel
theorem dd_M_depthOf_34 : decode cc_M_depthOf 34 = .ok (.iaload, 1) := by decide +kernel
theorem dd_M_depthOf_35 : decode cc_M_depthOf 35 = .ok (.istore 4, 2) := by decide +kernel
theorem dd_M_depthOf_37 : decode cc_M_depthOf 37 = .ok (.goto (-22), 3) := by decide +kernel
theorem dd_M_depthOf_40 : decode cc_M_depthOf 40 = .ok (.iload_n 3, 1) := by decide +kernel
theorem dd_M_depthOf_41 : decode cc_M_depthOf 41 = .ok (.ireturn, 1) := by decide +kernel
theorem dd_M_grow_0 : decode cc_M_grow 0 = .ok (.aload_n 0, 1) := by decide +kernel
theorem dd_M_grow_1 : decode cc_M_grow 1 = .ok (.getfield 13, 3) := by decide +kernel
theorem dd_M_grow_4 : decode cc_M_grow 4 = .ok (.iload_n 1, 1) := by decide +kernel
theorem dd_M_grow_5 : decode cc_M_grow 5 = .ok (.iaload, 1) := by decide +kernel
theorem dd_M_grow_6 : decode cc_M_grow 6 = .ok (.istore_n 3, 1) := by decide +kernel
theorem dd_M_grow_7 : decode cc_M_grow 7 = .ok (.aload_n 0, 1) := by decide +kernel
theorem dd_M_grow_8 : decode cc_M_grow 8 = .ok (.iload_n 1, 1) := by decide +kernel
theorem dd_M_grow_9 : decode cc_M_grow 9 = .ok (.invokevirtual 73, 3) := by decide +kernel
theorem dd_M_grow_12 : decode cc_M_grow 12 = .ok (.istore 4, 2) := by decide +kernel
theorem dd_M_grow_14 : decode cc_M_grow 14 = .ok (.aload_n 0, 1) := by decide +kernel
theorem dd_M_grow_15 : decode cc_M_grow 15 = .ok (.getfield 17, 3) := by decide +kernel
theorem dd_M_grow_18 : decode cc_M_grow 18 = .ok (.bipush 24, 2) := by decide +kernel
theorem dd_M_grow_20 : decode cc_M_grow 20 = .ok (.iload_n 1, 1) := by decide +kernel
theorem dd_M_grow_21 : decode cc_M_grow 21 = .ok (.imul, 1) := by decide +kernel
theorem dd_M_grow_22 : decode cc_M_grow 22 = .ok (.iload_n 3, 1) := by decide +kernel
theorem dd_M_grow_23 : decode cc_M_grow 23 = .ok (.iadd, 1) := by decide +kernel
theorem dd_M_grow_24 : decode cc_M_grow 24 = .ok (.iload 4, 2) := by decide +kernel
theorem dd_M_grow_26 : decode cc_M_grow 26 = .ok (.iastore, 1) := by decide +kernel
theorem dd_M_grow_27 : decode cc_M_grow 27 = .ok (.aload_n 0, 1) := by decide +kernel
theorem dd_M_grow_28 : decode cc_M_grow 28 = .ok (.getfield 20, 3) := by decide +kernel
theorem dd_M_grow_31 : decode cc_M_grow 31 = .ok (.bipush 24, 2) := by decide +kernel
theorem dd_M_grow_33 : decode cc_M_grow 33 = .ok (.iload_n 1, 1) := by decide +kernel
theorem dd_M_grow_34 : decode cc_M_grow 34 = .ok (.imul, 1) := by decide +kernel
theorem dd_M_grow_35 : decode cc_M_grow 35 = .ok (.iload_n 3, 1) := by decide +kernel
theorem dd_M_grow_36 : decode cc_M_grow 36 = .ok (.iadd, 1) := by decide +kernel
theorem dd_M_grow_37 : decode cc_M_grow 37 = .ok (.iload_n 2, 1) := by decide +kernel
theorem dd_M_grow_38 : decode cc_M_grow 38 = .ok (.iastore, 1) := by decide +kernel
theorem dd_M_grow_39 : decode cc_M_grow 39 = .ok (.aload_n 0, 1) := by decide +kernel
theorem dd_M_grow_40 : decode cc_M_grow 40 = .ok (.getfield 23, 3) := by decide +kernel
theorem dd_M_grow_43 : decode cc_M_grow 43 = .ok (.bipush 24, 2) := by decide +kernel
theorem dd_M_grow_45 : decode cc_M_grow 45 = .ok (.iload_n 1, 1) := by decide +kernel
theorem dd_M_grow_46 : decode cc_M_grow 46 = .ok (.imul, 1) := by decide +kernel
theorem dd_M_grow_47 : decode cc_M_grow 47 = .ok (.iload_n 3, 1) := by decide +kernel
theorem dd_M_grow_48 : decode cc_M_grow 48 = .ok (.iadd, 1) := by decide +kernel
theorem dd_M_grow_49 : decode cc_M_grow 49 = .ok (.iconst 0, 1) := by decide +kernel
theorem dd_M_grow_50 : decode cc_M_grow 50 = .ok (.bastore, 1) := by decide +kernel
theorem dd_M_grow_51 : decode cc_M_grow 51 = .ok (.aload_n 0, 1) := by decide +kernel
theorem dd_M_grow_52 : decode cc_M_grow 52 = .ok (.getfield 27, 3) := by decide +kernel
theorem dd_M_grow_55 : decode cc_M_grow 55 = .ok (.bipush 24, 2) := by decide +kernel
theorem dd_M_grow_57 : decode cc_M_grow 57 = .ok (.iload_n 1, 1) := by decide +kernel
theorem dd_M_grow_58 : decode cc_M_grow 58 = .ok (.imul, 1) := by decide +kernel
theorem dd_M_grow_59 : decode cc_M_grow 59 = .ok (.iload_n 3, 1) := by decide +kernel
theorem dd_M_grow_60 : decode cc_M_grow 60 = .ok (.iadd, 1) := by decide +kernel
theorem dd_M_grow_61 : decode cc_M_grow 61 = .ok (.iconst 0, 1) := by decide +kernel
theorem dd_M_grow_62 : decode cc_M_grow 62 = .ok (.iastore, 1) := by decide +kernel
theorem dd_M_grow_63 : decode cc_M_grow 63 = .ok (.aload_n 0, 1) := by decide +kernel
theorem dd_M_grow_64 : decode cc_M_grow 64 = .ok (.getfield 13, 3) := by decide +kernel
theorem dd_M_grow_67 : decode cc_M_grow 67 = .ok (.iload_n 1, 1) := by decide +kernel
theorem dd_M_grow_68 : decode cc_M_grow 68 = .ok (.dup2, 1) := by decide +kernel
theorem dd_M_grow_69 : decode cc_M_grow 69 = .ok (.iaload, 1) := by decide +kernel
theorem dd_M_grow_70 : decode cc_M_grow 70 = .ok (.iconst 1, 1) := by decide +kernel
theorem dd_M_grow_71 : decode cc_M_grow 71 = .ok (.iadd, 1) := by decide +kernel
theorem dd_M_grow_72 : decode cc_M_grow 72 = .ok (.iastore, 1) := by decide +kernel
theorem dd_M_grow_73 : decode cc_M_grow 73 = .ok (.iload_n 3, 1) := by decide +kernel
theorem dd_M_grow_74 : decode cc_M_grow 74 = .ok (.ireturn, 1) := by decide +kernel
theorem dd_M_addNamed_0 : decode cc_M_addNamed 0 = .ok (.aload_n 0, 1) := by decide +kernel
theorem dd_M_addNamed_1 : decode cc_M_addNamed 1 = .ok (.iconst 0, 1) := by decide +kernel
theorem dd_M_addNamed_2 : decode cc_M_addNamed 2 = .ok (.iload_n 1, 1) := by decide +kernel
theorem dd_M_addNamed_3 : decode cc_M_addNamed 3 = .ok (.invokevirtual 77, 3) := by decide +kernel
theorem dd_M_addNamed_6 : decode cc_M_addNamed 6 = .ok (.istore_n 2, 1) := by decide +kernel
theorem dd_M_addNamed_7 : decode cc_M_addNamed 7 = .ok (.iconst 0, 1) := by decide +kernel
theorem dd_M_addNamed_8 : decode cc_M_addNamed 8 = .ok (.istore_n 3, 1) := by decide +kernel
theorem dd_M_addNamed_9 : decode cc_M_addNamed 9 = .ok (.iload_n 3, 1) := by decide +kernel
theorem dd_M_addNamed_10 : decode cc_M_addNamed 10 = .ok (.aload_n 0, 1) := by decide +kernel
theorem dd_M_addNamed_11 : decode cc_M_addNamed 11 = .ok (.getfield 69, 3) := by decide +kernel
theorem dd_M_addNamed_14 : decode cc_M_addNamed 14 = .ok (.if_icmp .ge 26, 3) := by decide +kernel
theorem dd_M_addNamed_17 : decode cc_M_addNamed 17 = .ok (.aload_n 0, 1) := by decide +kernel
theorem dd_M_addNamed_18 : decode cc_M_addNamed 18 = .ok (.getfield 30, 3) := by decide +kernel
theorem dd_M_addNamed_21 : decode cc_M_addNamed 21 = .ok (.bipush 6, 2) := by decide +kernel
theorem dd_M_addNamed_23 : decode cc_M_addNamed 23 = .ok (.iload_n 2, 1) := by decide +kernel
theorem dd_M_addNamed_24 : decode cc_M_addNamed 24 = .ok (.imul, 1) := by decide +kernel
theorem dd_M_addNamed_25 : decode cc_M_addNamed 25 = .ok (.iload_n 3, 1) := by decide +kernel
theorem dd_M_addNamed_26 : decode cc_M_addNamed 26 = .ok (.iadd, 1) := by decide +kernel
theorem dd_M_addNamed_27 : decode cc_M_addNamed 27 = .ok (.aload_n 0, 1) := by decide +kernel
theorem dd_M_addNamed_28 : decode cc_M_addNamed 28 = .ok (.getfield 7, 3) := by decide +kernel
theorem dd_M_addNamed_31 : decode cc_M_addNamed 31 = .ok (.iload_n 3, 1) := by decide +kernel
theorem dd_M_addNamed_32 : decode cc_M_addNamed 32 = .ok (.caload, 1) := by decide +kernel
theorem dd_M_addNamed_33 : decode cc_M_addNamed 33 = .ok (.castore, 1) := by decide +kernel
theorem dd_M_addNamed_34 : decode cc_M_addNamed 34 = .ok (.iinc 3 1, 3) := by decide +kernel
theorem dd_M_addNamed_37 : decode cc_M_addNamed 37 = .ok (.goto (-28), 3) := by decide +kernel
theorem dd_M_addNamed_40 : decode cc_M_addNamed 40 = .ok (.aload_n 0, 1) := by decide +kernel
theorem dd_M_addNamed_41 : decode cc_M_addNamed 41 = .ok (.getfield 27, 3) := by decide +kernel
theorem dd_M_addNamed_44 : decode cc_M_addNamed 44 = .ok (.iload_n 2, 1) := by decide +kernel
theorem dd_M_addNamed_45 : decode cc_M_addNamed 45 = .ok (.aload_n 0, 1) := by decide +kernel
theorem dd_M_addNamed_46 : decode cc_M_addNamed 46 = .ok (.getfield 69, 3) := by decide +kernel
theorem dd_M_addNamed_49 : decode cc_M_addNamed 49 = .ok (.iastore, 1) := by decide +kernel
theorem dd_M_addNamed_50 : decode cc_M_addNamed 50 = .ok (.aload_n 0, 1) := by decide +kernel
theorem dd_M_addNamed_51 : decode cc_M_addNamed 51 = .ok (.iconst 0, 1) := by decide +kernel
theorem dd_M_addNamed_52 : decode cc_M_addNamed 52 = .ok (.putfield 69, 3) := by decide +kernel
theorem dd_M_addNamed_55 : decode cc_M_addNamed 55 = .ok (.iload_n 2, 1) := by decide +kernel
theorem dd_M_addNamed_56 : decode cc_M_addNamed 56 = .ok (.ireturn, 1) := by decide +kernel
theorem dd_M_open_0 : decode cc_M_open 0 = .ok (.aload_n 0, 1) := by decide +kernel
theorem dd_M_open_1 : decode cc_M_open 1 = .ok (.iconst 0, 1) := by decide +kernel
theorem dd_M_open_2 : decode cc_M_open 2 = .ok (.invokevirtual 73, 3) := by decide +kernel
theorem dd_M_open_5 : decode cc_M_open 5 = .ok (.istore_n 1, 1) := by decide +kernel
theorem dd_M_open_6 : decode cc_M_open 6 = .ok (.aload_n 0, 1) := by decide +kernel
theorem dd_M_open_7 : decode cc_M_open 7 = .ok (.getfield 13, 3) := by decide +kernel
theorem dd_M_open_10 : decode cc_M_open 10 = .ok (.iconst 0, 1) := by decide +kernel
theorem dd_M_open_11 : decode cc_M_open 11 = .ok (.iaload, 1) := by decide +kernel
theorem dd_M_open_12 : decode cc_M_open 12 = .ok (.bipush 24, 2) := by decide +kernel
theorem dd_M_open_14 : decode cc_M_open 14 = .ok (.if_icmp .eq 17, 3) := by decide +kernel
theorem dd_M_open_17 : decode cc_M_open 17 = .ok (.iload_n 1, 1) := by decide +kernel
theorem dd_M_open_18 : decode cc_M_open 18 = .ok (.ifCond .lt 16, 3) := by decide +kernel
theorem dd_M_open_21 : decode cc_M_open 21 = .ok (.aload_n 0, 1) := by decide +kernel
theorem dd_M_open_22 : decode cc_M_open 22 = .ok (.iconst 0, 1) := by decide +kernel
theorem dd_M_open_23 : decode cc_M_open 23 = .ok (.iload_n 1, 1) := by decide +kernel
theorem dd_M_open_24 : decode cc_M_open 24 = .ok (.invokevirtual 81, 3) := by decide +kernel
theorem dd_M_open_27 : decode cc_M_open 27 = .ok (.iconst 2, 1) := by decide +kernel
theorem dd_M_open_28 : decode cc_M_open 28 = .ok (.if_icmp .ne 6, 3) := by decide +kernel
theorem dd_M_open_31 : decode cc_M_open 31 = .ok (.bipush (-2), 2) := by decide +kernel
theorem dd_M_open_33 : decode cc_M_open 33 = .ok (.ireturn, 1) := by decide +kernel
theorem dd_M_open_34 : decode cc_M_open 34 = .ok (.aload_n 0, 1) := by decide +kernel
theorem dd_M_open_35 : decode cc_M_open 35 = .ok (.iconst 4, 1) := by decide +kernel
theorem dd_M_open_36 : decode cc_M_open 36 = .ok (.invokevirtual 84, 3) := by decide +kernel
theorem dd_M_open_39 : decode cc_M_open 39 = .ok (.ireturn, 1) := by decide +kernel
theorem dd_M_close_0 : decode cc_M_close 0 = .ok (.aload_n 0, 1) := by decide +kernel
theorem dd_M_close_1 : decode cc_M_close 1 = .ok (.iconst 0, 1) := by decide +kernel
theorem dd_M_close_2 : decode cc_M_close 2 = .ok (.invokevirtual 73, 3) := by decide +kernel
theorem dd_M_close_5 : decode cc_M_close 5 = .ok (.istore_n 1, 1) := by decide +kernel
theorem dd_M_close_6 : decode cc_M_close 6 = .ok (.iload_n 1, 1) := by decide +kernel
theorem dd_M_close_7 : decode cc_M_close 7 = .ok (.ifCond .ge 5, 3) := by decide +kernel
theorem dd_M_close_10 : decode cc_M_close 10 = .ok (.iconst 0, 1) := by decide +kernel
theorem dd_M_close_11 : decode cc_M_close 11 = .ok (.ireturn, 1) := by decide +kernel
theorem dd_M_close_12 : decode cc_M_close 12 = .ok (.aload_n 0, 1) := by decide +kernel
theorem dd_M_close_13 : decode cc_M_close 13 = .ok (.getfield 23, 3) := by decide +kernel
theorem dd_M_close_16 : decode cc_M_close 16 = .ok (.iload_n 1, 1) := by decide +kernel
theorem dd_M_close_17 : decode cc_M_close 17 = .ok (.iconst 1, 1) := by decide +kernel
theorem dd_M_close_18 : decode cc_M_close 18 = .ok (.bastore, 1) := by decide +kernel
theorem dd_M_close_19 : decode cc_M_close 19 = .ok (.iconst 1, 1) := by decide +kernel
theorem dd_M_close_20 : decode cc_M_close 20 = .ok (.ireturn, 1) := by decide +kernel
theorem dd_M_test_0 : decode cc_M_test 0 = .ok (.iload_n 1, 1) := by decide +kernel
theorem dd_M_test_1 : decode cc_M_test 1 = .ok (.ifCond .lt 8, 3) := by decide +kernel
theorem dd_M_test_4 : decode cc_M_test 4 = .ok (.iload_n 1, 1) := by decide +kernel
theorem dd_M_test_5 : decode cc_M_test 5 = .ok (.iconst 3, 1) := by decide +kernel
theorem dd_M_test_6 : decode cc_M_test 6 = .ok (.if_icmp .le 5, 3) := by decide +kernel
theorem dd_M_test_9 : decode cc_M_test 9 = .ok (.iconst (-1), 1) := by decide +kernel
theorem dd_M_test_10 : decode cc_M_test 10 = .ok (.ireturn, 1) := by decide +kernel
theorem dd_M_test_11 : decode cc_M_test 11 = .ok (.aload_n 0, 1) := by decide +kernel
theorem dd_M_test_12 : decode cc_M_test 12 = .ok (.getfield 13, 3) := by decide +kernel
theorem dd_M_test_15 : decode cc_M_test 15 = .ok (.iconst 0, 1) := by decide +kernel
theorem dd_M_test_16 : decode cc_M_test 16 = .ok (.iaload, 1) := by decide +kernel
theorem dd_M_test_17 : decode cc_M_test 17 = .ok (.bipush 24, 2) := by decide +kernel
theorem dd_M_test_19 : decode cc_M_test 19 = .ok (.if_icmp .ne 8, 3) := by decide +kernel
theorem dd_M_test_22 : decode cc_M_test 22 = .ok (.bipush (-2), 2) := by decide +kernel
theorem dd_M_test_24 : decode cc_M_test 24 = .ok (.goto 8, 3) := by decide +kernel
theorem dd_M_test_27 : decode cc_M_test 27 = .ok (.aload_n 0, 1) := by decide +kernel
theorem dd_M_test_28 : decode cc_M_test 28 = .ok (.iload_n 1, 1) := by decide +kernel
theorem dd_M_test_29 : decode cc_M_test 29 = .ok (.invokevirtual 84, 3) := by decide +kernel
theorem dd_M_test_32 : decode cc_M_test 32 = .ok (.ireturn, 1) := by decide +kernel
theorem dd_M_reset_0 : decode cc_M_reset 0 = .ok (.aload_n 0, 1) := by decide +kernel
theorem dd_M_reset_1 : decode cc_M_reset 1 = .ok (.getfield 13, 3) := by decide +kernel
theorem dd_M_reset_4 : decode cc_M_reset 4 = .ok (.iconst 0, 1) := by decide +kernel
theorem dd_M_reset_5 : decode cc_M_reset 5 = .ok (.iconst 0, 1) := by decide +kernel
theorem dd_M_reset_6 : decode cc_M_reset 6 = .ok (.iastore, 1) := by decide +kernel
theorem dd_M_reset_7 : decode cc_M_reset 7 = .ok (.return_, 1) := by decide +kernel
theorem dd_M_nodes_0 : decode cc_M_nodes 0 = .ok (.aload_n 0, 1) := by decide +kernel
theorem dd_M_nodes_1 : decode cc_M_nodes 1 = .ok (.getfield 13, 3) := by decide +kernel
theorem dd_M_nodes_4 : decode cc_M_nodes 4 = .ok (.iconst 0, 1) := by decide +kernel
theorem dd_M_nodes_5 : decode cc_M_nodes 5 = .ok (.iaload, 1) := by decide +kernel
theorem dd_M_nodes_6 : decode cc_M_nodes 6 = .ok (.ireturn, 1) := by decide +kernel
theorem dd_M_node_0 : decode cc_M_node 0 = .ok (.iload_n 1, 1) := by decide +kernel
theorem dd_M_node_1 : decode cc_M_node 1 = .ok (.ifCond .lt 17, 3) := by decide +kernel
theorem dd_M_node_4 : decode cc_M_node 4 = .ok (.iload_n 1, 1) := by decide +kernel
theorem dd_M_node_5 : decode cc_M_node 5 = .ok (.aload_n 0, 1) := by decide +kernel
theorem dd_M_node_6 : decode cc_M_node 6 = .ok (.getfield 13, 3) := by decide +kernel
theorem dd_M_node_9 : decode cc_M_node 9 = .ok (.iconst 0, 1) := by decide +kernel
theorem dd_M_node_10 : decode cc_M_node 10 = .ok (.iaload, 1) := by decide +kernel
theorem dd_M_node_11 : decode cc_M_node 11 = .ok (.if_icmp .ge 7, 3) := by decide +kernel
theorem dd_M_node_14 : decode cc_M_node 14 = .ok (.iconst 1, 1) := by decide +kernel
theorem dd_M_node_15 : decode cc_M_node 15 = .ok (.goto 4, 3) := by decide +kernel
theorem dd_M_node_18 : decode cc_M_node 18 = .ok (.iconst 0, 1) := by decide +kernel
theorem dd_M_node_19 : decode cc_M_node 19 = .ok (.ireturn, 1) := by decide +kernel
theorem dd_M_good_0 : decode cc_M_good 0 = .ok (.iconst 1, 1) := by decide +kernel
theorem dd_M_good_1 : decode cc_M_good 1 = .ok (.istore_n 3, 1) := by decide +kernel
theorem dd_M_good_2 : decode cc_M_good 2 = .ok (.iload_n 2, 1) := by decide +kernel
theorem dd_M_good_3 : decode cc_M_good 3 = .ok (.iconst 1, 1) := by decide +kernel
theorem dd_M_good_4 : decode cc_M_good 4 = .ok (.iadd, 1) := by decide +kernel
theorem dd_M_good_5 : decode cc_M_good 5 = .ok (.istore 4, 2) := by decide +kernel
theorem dd_M_good_7 : decode cc_M_good 7 = .ok (.iload 4, 2) := by decide +kernel
theorem dd_M_good_9 : decode cc_M_good 9 = .ok (.aload_n 0, 1) := by decide +kernel
theorem dd_M_good_10 : decode cc_M_good 10 = .ok (.getfield 13, 3) := by decide +kernel
theorem dd_M_good_13 : decode cc_M_good 13 = .ok (.iload_n 1, 1) := by decide +kernel
theorem dd_M_good_14 : decode cc_M_good 14 = .ok (.iaload, 1) := by decide +kernel
theorem dd_M_good_15 : decode cc_M_good 15 = .ok (.if_icmp .ge 97, 3) := by decide +kernel
theorem dd_M_good_18 : decode cc_M_good 18 = .ok (.iconst 0, 1) := by decide +kernel
theorem dd_M_good_19 : decode cc_M_good 19 = .ok (.istore 5, 2) := by decide +kernel
theorem dd_M_good_21 : decode cc_M_good 21 = .ok (.aload_n 0, 1) := by decide +kernel
theorem dd_M_good_22 : decode cc_M_good 22 = .ok (.getfield 17, 3) := by decide +kernel
theorem dd_M_good_25 : decode cc_M_good 25 = .ok (.bipush 24, 2) := by decide +kernel
theorem dd_M_good_27 : decode cc_M_good 27 = .ok (.iload_n 1, 1) := by decide +kernel
theorem dd_M_good_28 : decode cc_M_good 28 = .ok (.imul, 1) := by decide +kernel
theorem dd_M_good_29 : decode cc_M_good 29 = .ok (.iload 4, 2) := by decide +kernel
theorem dd_M_good_31 : decode cc_M_good 31 = .ok (.iadd, 1) := by decide +kernel
theorem dd_M_good_32 : decode cc_M_good 32 = .ok (.iaload, 1) := by decide +kernel
theorem dd_M_good_33 : decode cc_M_good 33 = .ok (.istore 6, 2) := by decide +kernel
theorem dd_M_good_35 : decode cc_M_good 35 = .ok (.iload 6, 2) := by decide +kernel
theorem dd_M_good_37 : decode cc_M_good 37 = .ok (.ifCond .lt 38, 3) := by decide +kernel
theorem dd_M_good_40 : decode cc_M_good 40 = .ok (.iload 5, 2) := by decide +kernel
theorem dd_M_good_42 : decode cc_M_good 42 = .ok (.ifCond .ne 9, 3) := by decide +kernel
theorem dd_M_good_45 : decode cc_M_good 45 = .ok (.iload 6, 2) := by decide +kernel
theorem dd_M_good_47 : decode cc_M_good 47 = .ok (.iload_n 2, 1) := by decide +kernel
theorem dd_M_good_48 : decode cc_M_good 48 = .ok (.if_icmp .ne 7, 3) := by decide +kernel
theorem dd_M_good_51 : decode cc_M_good 51 = .ok (.iconst 1, 1) := by decide +kernel
theorem dd_M_good_52 : decode cc_M_good 52 = .ok (.goto 4, 3) := by decide +kernel
theorem dd_M_good_55 : decode cc_M_good 55 = .ok (.iconst 0, 1) := by decide +kernel
theorem dd_M_good_56 : decode cc_M_good 56 = .ok (.istore 5, 2) := by decide +kernel
theorem dd_M_good_58 : decode cc_M_good 58 = .ok (.aload_n 0, 1) := by decide +kernel
theorem dd_M_good_59 : decode cc_M_good 59 = .ok (.getfield 17, 3) := by decide +kernel
theorem dd_M_good_62 : decode cc_M_good 62 = .ok (.bipush 24, 2) := by decide +kernel
theorem dd_M_good_64 : decode cc_M_good 64 = .ok (.iload_n 1, 1) := by decide +kernel
theorem dd_M_good_65 : decode cc_M_good 65 = .ok (.imul, 1) := by decide +kernel
theorem dd_M_good_66 : decode cc_M_good 66 = .ok (.iload 6, 2) := by decide +kernel
theorem dd_M_good_68 : decode cc_M_good 68 = .ok (.iadd, 1) := by decide +kernel
theorem dd_M_good_69 : decode cc_M_good 69 = .ok (.iaload, 1) := by decide +kernel
theorem dd_M_good_70 : decode cc_M_good 70 = .ok (.istore 6, 2) := by decide +kernel
theorem dd_M_good_72 : decode cc_M_good 72 = .ok (.goto (-37), 3) := by decide +kernel
theorem dd_M_good_75 : decode cc_M_good 75 = .ok (.iload_n 3, 1) := by decide +kernel
theorem dd_M_good_76 : decode cc_M_good 76 = .ok (.ifCond .eq 28, 3) := by decide +kernel
theorem dd_M_good_79 : decode cc_M_good 79 = .ok (.iload 5, 2) := by decide +kernel
theorem dd_M_good_81 : decode cc_M_good 81 = .ok (.ifCond .eq 19, 3) := by decide +kernel
theorem dd_M_good_84 : decode cc_M_good 84 = .ok (.aload_n 0, 1) := by decide +kernel
theorem dd_M_good_85 : decode cc_M_good 85 = .ok (.getfield 20, 3) := by decide +kernel
theorem dd_M_good_88 : decode cc_M_good 88 = .ok (.bipush 24, 2) := by decide +kernel
theorem dd_M_good_90 : decode cc_M_good 90 = .ok (.iload_n 1, 1) := by decide +kernel
theorem dd_M_good_91 : decode cc_M_good 91 = .ok (.imul, 1) := by decide +kernel
theorem dd_M_good_92 : decode cc_M_good 92 = .ok (.iload 4, 2) := by decide +kernel
theorem dd_M_good_94 : decode cc_M_good 94 = .ok (.iadd, 1) := by decide +kernel
theorem dd_M_good_95 : decode cc_M_good 95 = .ok (.iaload, 1) := by decide +kernel
theorem dd_M_good_96 : decode cc_M_good 96 = .ok (.iconst 1, 1) := by decide +kernel
theorem dd_M_good_97 : decode cc_M_good 97 = .ok (.if_icmp .eq 7, 3) := by decide +kernel
theorem dd_M_good_100 : decode cc_M_good 100 = .ok (.iconst 1, 1) := by decide +kernel
theorem dd_M_good_101 : decode cc_M_good 101 = .ok (.goto 4, 3) := by decide +kernel
theorem dd_M_good_104 : decode cc_M_good 104 = .ok (.iconst 0, 1) := by decide +kernel
theorem dd_M_good_105 : decode cc_M_good 105 = .ok (.istore_n 3, 1) := by decide +kernel
theorem dd_M_good_106 : decode cc_M_good 106 = .ok (.iinc 4 1, 3) := by decide +kernel
theorem dd_M_good_109 : decode cc_M_good 109 = .ok (.goto (-102), 3) := by decide +kernel
theorem dd_M_good_112 : decode cc_M_good 112 = .ok (.iload_n 3, 1) := by decide +kernel
theorem dd_M_good_113 : decode cc_M_good 113 = .ok (.ireturn, 1) := by decide +kernel
theorem dd_M_kind_0 : decode cc_M_kind 0 = .ok (.aload_n 0, 1) := by decide +kernel
theorem dd_M_kind_1 : decode cc_M_kind 1 = .ok (.iload_n 1, 1) := by decide +kernel
theorem dd_M_kind_2 : decode cc_M_kind 2 = .ok (.invokevirtual 87, 3) := by decide +kernel
theorem dd_M_kind_5 : decode cc_M_kind 5 = .ok (.ifCond .ne 5, 3) := by decide +kernel
theorem dd_M_kind_8 : decode cc_M_kind 8 = .ok (.iconst (-1), 1) := by decide +kernel
theorem dd_M_kind_9 : decode cc_M_kind 9 = .ok (.ireturn, 1) := by decide +kernel
theorem dd_M_kind_10 : decode cc_M_kind 10 = .ok (.aload_n 0, 1) := by decide +kernel
theorem dd_M_kind_11 : decode cc_M_kind 11 = .ok (.getfield 20, 3) := by decide +kernel
theorem dd_M_kind_14 : decode cc_M_kind 14 = .ok (.iload_n 1, 1) := by decide +kernel
theorem dd_M_kind_15 : decode cc_M_kind 15 = .ok (.iaload, 1) := by decide +kernel
theorem dd_M_kind_16 : decode cc_M_kind 16 = .ok (.iconst 4, 1) := by decide +kernel
theorem dd_M_kind_17 : decode cc_M_kind 17 = .ok (.if_icmp .ge 12, 3) := by decide +kernel
theorem dd_M_kind_20 : decode cc_M_kind 20 = .ok (.aload_n 0, 1) := by decide +kernel
theorem dd_M_kind_21 : decode cc_M_kind 21 = .ok (.getfield 20, 3) := by decide +kernel
theorem dd_M_kind_24 : decode cc_M_kind 24 = .ok (.iload_n 1, 1) := by decide +kernel
theorem dd_M_kind_25 : decode cc_M_kind 25 = .ok (.iaload, 1) := by decide +kernel
theorem dd_M_kind_26 : decode cc_M_kind 26 = .ok (.goto 31, 3) := by decide +kernel
theorem dd_M_kind_29 : decode cc_M_kind 29 = .ok (.aload_n 0, 1) := by decide +kernel
theorem dd_M_kind_30 : decode cc_M_kind 30 = .ok (.getfield 23, 3) := by decide +kernel
theorem dd_M_kind_33 : decode cc_M_kind 33 = .ok (.iload_n 1, 1) := by decide +kernel
theorem dd_M_kind_34 : decode cc_M_kind 34 = .ok (.baload, 1) := by decide +kernel
theorem dd_M_kind_35 : decode cc_M_kind 35 = .ok (.ifCond .ne 8, 3) := by decide +kernel
theorem dd_M_kind_38 : decode cc_M_kind 38 = .ok (.bipush 6, 2) := by decide +kernel
theorem dd_M_kind_40 : decode cc_M_kind 40 = .ok (.goto 17, 3) := by decide +kernel
theorem dd_M_kind_43 : decode cc_M_kind 43 = .ok (.aload_n 0, 1) := by decide +kernel
theorem dd_M_kind_44 : decode cc_M_kind 44 = .ok (.iconst 0, 1) := by decide +kernel
theorem dd_M_kind_45 : decode cc_M_kind 45 = .ok (.iload_n 1, 1) := by decide +kernel
theorem dd_M_kind_46 : decode cc_M_kind 46 = .ok (.invokevirtual 91, 3) := by decide +kernel
theorem dd_M_kind_49 : decode cc_M_kind 49 = .ok (.ifCond .eq 7, 3) := by decide +kernel
theorem dd_M_kind_52 : decode cc_M_kind 52 = .ok (.iconst 4, 1) := by decide +kernel
theorem dd_M_kind_53 : decode cc_M_kind 53 = .ok (.goto 4, 3) := by decide +kernel
theorem dd_M_kind_56 : decode cc_M_kind 56 = .ok (.iconst 5, 1) := by decide +kernel
theorem dd_M_kind_57 : decode cc_M_kind 57 = .ok (.ireturn, 1) := by decide +kernel
theorem dd_M_depth_0 : decode cc_M_depth 0 = .ok (.aload_n 0, 1) := by decide +kernel
theorem dd_M_depth_1 : decode cc_M_depth 1 = .ok (.iload_n 1, 1) := by decide +kernel
theorem dd_M_depth_2 : decode cc_M_depth 2 = .ok (.invokevirtual 87, 3) := by decide +kernel
theorem dd_M_depth_5 : decode cc_M_depth 5 = .ok (.ifCond .eq 12, 3) := by decide +kernel
theorem dd_M_depth_8 : decode cc_M_depth 8 = .ok (.aload_n 0, 1) := by decide +kernel
theorem dd_M_depth_9 : decode cc_M_depth 9 = .ok (.iconst 0, 1) := by decide +kernel
theorem dd_M_depth_10 : decode cc_M_depth 10 = .ok (.iload_n 1, 1) := by decide +kernel
theorem dd_M_depth_11 : decode cc_M_depth 11 = .ok (.invokevirtual 81, 3) := by decide +kernel
theorem dd_M_depth_14 : decode cc_M_depth 14 = .ok (.goto 4, 3) := by decide +kernel
theorem dd_M_depth_17 : decode cc_M_depth 17 = .ok (.iconst (-1), 1) := by decide +kernel
theorem dd_M_depth_18 : decode cc_M_depth 18 = .ok (.ireturn, 1) := by decide +kernel
theorem dd_M_name_0 : decode cc_M_name 0 = .ok (.aload_n 0, 1) := by decide +kernel
theorem dd_M_name_1 : decode cc_M_name 1 = .ok (.iload_n 1, 1) := by decide +kernel
theorem dd_M_name_2 : decode cc_M_name 2 = .ok (.invokevirtual 87, 3) := by decide +kernel
theorem dd_M_name_5 : decode cc_M_name 5 = .ok (.ifCond .eq 31, 3) := by decide +kernel
theorem dd_M_name_8 : decode cc_M_name 8 = .ok (.iload_n 2, 1) := by decide +kernel
theorem dd_M_name_9 : decode cc_M_name 9 = .ok (.ifCond .lt 27, 3) := by decide +kernel
theorem dd_M_name_12 : decode cc_M_name 12 = .ok (.iload_n 2, 1) := by decide +kernel
theorem dd_M_name_13 : decode cc_M_name 13 = .ok (.aload_n 0, 1) := by decide +kernel
theorem dd_M_name_14 : decode cc_M_name 14 = .ok (.getfield 27, 3) := by decide +kernel
theorem dd_M_name_17 : decode cc_M_name 17 = .ok (.iload_n 1, 1) := by decide +kernel
theorem dd_M_name_18 : decode cc_M_name 18 = .ok (.iaload, 1) := by decide +kernel
theorem dd_M_name_19 : decode cc_M_name 19 = .ok (.if_icmp .ge 17, 3) := by decide +kernel
theorem dd_M_name_22 : decode cc_M_name 22 = .ok (.aload_n 0, 1) := by decide +kernel
theorem dd_M_name_23 : decode cc_M_name 23 = .ok (.getfield 30, 3) := by decide +kernel
theorem dd_M_name_26 : decode cc_M_name 26 = .ok (.bipush 6, 2) := by decide +kernel
theorem dd_M_name_28 : decode cc_M_name 28 = .ok (.iload_n 1, 1) := by decide +kernel
theorem dd_M_name_29 : decode cc_M_name 29 = .ok (.imul, 1) := by decide +kernel
theorem dd_M_name_30 : decode cc_M_name 30 = .ok (.iload_n 2, 1) := by decide +kernel
theorem dd_M_name_31 : decode cc_M_name 31 = .ok (.iadd, 1) := by decide +kernel
theorem dd_M_name_32 : decode cc_M_name 32 = .ok (.caload, 1) := by decide +kernel
theorem dd_M_name_33 : decode cc_M_name 33 = .ok (.goto 4, 3) := by decide +kernel
theorem dd_M_name_36 : decode cc_M_name 36 = .ok (.iconst (-1), 1) := by decide +kernel
theorem dd_M_name_37 : decode cc_M_name 37 = .ok (.ireturn, 1) := by decide +kernel
theorem dd_M_placeOf_0 : decode cc_M_placeOf 0 = .ok (.iconst 0, 1) := by decide +kernel
theorem dd_M_placeOf_1 : decode cc_M_placeOf 1 = .ok (.istore_n 3, 1) := by decide +kernel
theorem dd_M_placeOf_2 : decode cc_M_placeOf 2 = .ok (.iconst 0, 1) := by decide +kernel
theorem dd_M_placeOf_3 : decode cc_M_placeOf 3 = .ok (.istore 4, 2) := by decide +kernel
theorem dd_M_placeOf_5 : decode cc_M_placeOf 5 = .ok (.iload 4, 2) := by decide +kernel
theorem dd_M_placeOf_7 : decode cc_M_placeOf 7 = .ok (.iload_n 2, 1) := by decide +kernel
theorem dd_M_placeOf_8 : decode cc_M_placeOf 8 = .ok (.if_icmp .gt 43, 3) := by decide +kernel
theorem dd_M_placeOf_11 : decode cc_M_placeOf 11 = .ok (.iload_n 3, 1) := by decide +kernel
theorem dd_M_placeOf_12 : decode cc_M_placeOf 12 = .ok (.aload_n 0, 1) := by decide +kernel
theorem dd_M_placeOf_13 : decode cc_M_placeOf 13 = .ok (.getfield 17, 3) := by decide +kernel
theorem dd_M_placeOf_16 : decode cc_M_placeOf 16 = .ok (.bipush 24, 2) := by decide +kernel
theorem dd_M_placeOf_18 : decode cc_M_placeOf 18 = .ok (.iload_n 1, 1) := by decide +kernel
theorem dd_M_placeOf_19 : decode cc_M_placeOf 19 = .ok (.imul, 1) := by decide +kernel
theorem dd_M_placeOf_20 : decode cc_M_placeOf 20 = .ok (.iload 4, 2) := by decide +kernel
theorem dd_M_placeOf_22 : decode cc_M_placeOf 22 = .ok (.iadd, 1) := by decide +kernel
theorem dd_M_placeOf_23 : decode cc_M_placeOf 23 = .ok (.iaload, 1) := by decide +kernel
theorem dd_M_placeOf_24 : decode cc_M_placeOf 24 = .ok (.aload_n 0, 1) := by decide +kernel
theorem dd_M_placeOf_25 : decode cc_M_placeOf 25 = .ok (.getfield 17, 3) := by decide +kernel
theorem dd_M_placeOf_28 : decode cc_M_placeOf 28 = .ok (.bipush 24, 2) := by decide +kernel
theorem dd_M_placeOf_30 : decode cc_M_placeOf 30 = .ok (.iload_n 1, 1) := by decide +kernel
theorem dd_M_placeOf_31 : decode cc_M_placeOf 31 = .ok (.imul, 1) := by decide +kernel
theorem dd_M_placeOf_32 : decode cc_M_placeOf 32 = .ok (.iload_n 2, 1) := by decide +kernel
theorem dd_M_placeOf_33 : decode cc_M_placeOf 33 = .ok (.iadd, 1) := by decide +kernel
theorem dd_M_placeOf_34 : decode cc_M_placeOf 34 = .ok (.iaload, 1) := by decide +kernel
theorem dd_M_placeOf_35 : decode cc_M_placeOf 35 = .ok (.if_icmp .ne 7, 3) := by decide +kernel
theorem dd_M_placeOf_38 : decode cc_M_placeOf 38 = .ok (.iconst 1, 1) := by decide +kernel
theorem dd_M_placeOf_39 : decode cc_M_placeOf 39 = .ok (.goto 4, 3) := by decide +kernel
theorem dd_M_placeOf_42 : decode cc_M_placeOf 42 = .ok (.iconst 0, 1) := by decide +kernel
theorem dd_M_placeOf_43 : decode cc_M_placeOf 43 = .ok (.iadd, 1) := by decide +kernel
theorem dd_M_placeOf_44 : decode cc_M_placeOf 44 = .ok (.istore_n 3, 1) := by decide +kernel
theorem dd_M_placeOf_45 : decode cc_M_placeOf 45 = .ok (.iinc 4 1, 3) := by decide +kernel
theorem dd_M_placeOf_48 : decode cc_M_placeOf 48 = .ok (.goto (-43), 3) := by decide +kernel
theorem dd_M_placeOf_51 : decode cc_M_placeOf 51 = .ok (.iload_n 3, 1) := by decide +kernel
theorem dd_M_placeOf_52 : decode cc_M_placeOf 52 = .ok (.ireturn, 1) := by decide +kernel
theorem dd_M_rowSize_0 : decode cc_M_rowSize 0 = .ok (.iconst 0, 1) := by decide +kernel
theorem dd_M_rowSize_1 : decode cc_M_rowSize 1 = .ok (.istore_n 3, 1) := by decide +kernel
theorem dd_M_rowSize_2 : decode cc_M_rowSize 2 = .ok (.iconst 0, 1) := by decide +kernel
theorem dd_M_rowSize_3 : decode cc_M_rowSize 3 = .ok (.istore 4, 2) := by decide +kernel
theorem dd_M_rowSize_5 : decode cc_M_rowSize 5 = .ok (.iload 4, 2) := by decide +kernel
theorem dd_M_rowSize_7 : decode cc_M_rowSize 7 = .ok (.aload_n 0, 1) := by decide +kernel
theorem dd_M_rowSize_8 : decode cc_M_rowSize 8 = .ok (.getfield 13, 3) := by decide +kernel
theorem dd_M_rowSize_11 : decode cc_M_rowSize 11 = .ok (.iload_n 1, 1) := by decide +kernel
theorem dd_M_rowSize_12 : decode cc_M_rowSize 12 = .ok (.iaload, 1) := by decide +kernel
theorem dd_M_rowSize_13 : decode cc_M_rowSize 13 = .ok (.if_icmp .ge 33, 3) := by decide +kernel
theorem dd_M_rowSize_16 : decode cc_M_rowSize 16 = .ok (.iload_n 3, 1) := by decide +kernel
theorem dd_M_rowSize_17 : decode cc_M_rowSize 17 = .ok (.aload_n 0, 1) := by decide +kernel
theorem dd_M_rowSize_18 : decode cc_M_rowSize 18 = .ok (.getfield 17, 3) := by decide +kernel
theorem dd_M_rowSize_21 : decode cc_M_rowSize 21 = .ok (.bipush 24, 2) := by decide +kernel
theorem dd_M_rowSize_23 : decode cc_M_rowSize 23 = .ok (.iload_n 1, 1) := by decide +kernel
theorem dd_M_rowSize_24 : decode cc_M_rowSize 24 = .ok (.imul, 1) := by decide +kernel
theorem dd_M_rowSize_25 : decode cc_M_rowSize 25 = .ok (.iload 4, 2) := by decide +kernel
theorem dd_M_rowSize_27 : decode cc_M_rowSize 27 = .ok (.iadd, 1) := by decide +kernel
theorem dd_M_rowSize_28 : decode cc_M_rowSize 28 = .ok (.iaload, 1) := by decide +kernel
theorem dd_M_rowSize_29 : decode cc_M_rowSize 29 = .ok (.iload_n 2, 1) := by decide +kernel
theorem dd_M_rowSize_30 : decode cc_M_rowSize 30 = .ok (.if_icmp .ne 7, 3) := by decide +kernel
theorem dd_M_rowSize_33 : decode cc_M_rowSize 33 = .ok (.iconst 1, 1) := by decide +kernel
theorem dd_M_rowSize_34 : decode cc_M_rowSize 34 = .ok (.goto 4, 3) := by decide +kernel
theorem dd_M_rowSize_37 : decode cc_M_rowSize 37 = .ok (.iconst 0, 1) := by decide +kernel
theorem dd_M_rowSize_38 : decode cc_M_rowSize 38 = .ok (.iadd, 1) := by decide +kernel
theorem dd_M_rowSize_39 : decode cc_M_rowSize 39 = .ok (.istore_n 3, 1) := by decide +kernel
theorem dd_M_rowSize_40 : decode cc_M_rowSize 40 = .ok (.iinc 4 1, 3) := by decide +kernel
theorem dd_M_rowSize_43 : decode cc_M_rowSize 43 = .ok (.goto (-38), 3) := by decide +kernel
theorem dd_M_rowSize_46 : decode cc_M_rowSize 46 = .ok (.iload_n 3, 1) := by decide +kernel
theorem dd_M_rowSize_47 : decode cc_M_rowSize 47 = .ok (.ireturn, 1) := by decide +kernel
theorem dd_M_add_0 : decode cc_M_add 0 = .ok (.aload_n 0, 1) := by decide +kernel
theorem dd_M_add_1 : decode cc_M_add 1 = .ok (.getfield 33, 3) := by decide +kernel
theorem dd_M_add_4 : decode cc_M_add 4 = .ok (.aload_n 0, 1) := by decide +kernel
theorem dd_M_add_5 : decode cc_M_add 5 = .ok (.getfield 95, 3) := by decide +kernel
theorem dd_M_add_8 : decode cc_M_add 8 = .ok (.iload_n 1, 1) := by decide +kernel
theorem dd_M_add_9 : decode cc_M_add 9 = .ok (.castore, 1) := by decide +kernel
theorem dd_M_add_10 : decode cc_M_add 10 = .ok (.aload_n 0, 1) := by decide +kernel
theorem dd_M_add_11 : decode cc_M_add 11 = .ok (.dup, 1) := by decide +kernel
theorem dd_M_add_12 : decode cc_M_add 12 = .ok (.getfield 95, 3) := by decide +kernel
theorem dd_M_add_15 : decode cc_M_add 15 = .ok (.iconst 1, 1) := by decide +kernel
theorem dd_M_add_16 : decode cc_M_add 16 = .ok (.iadd, 1) := by decide +kernel
theorem dd_M_add_17 : decode cc_M_add 17 = .ok (.putfield 95, 3) := by decide +kernel
theorem dd_M_add_20 : decode cc_M_add 20 = .ok (.return_, 1) := by decide +kernel
theorem dd_M_addText_0 : decode cc_M_addText 0 = .ok (.iconst 0, 1) := by decide +kernel
theorem dd_M_addText_1 : decode cc_M_addText 1 = .ok (.istore_n 2, 1) := by decide +kernel
theorem dd_M_addText_2 : decode cc_M_addText 2 = .ok (.iload_n 1, 1) := by decide +kernel
theorem dd_M_addText_3 : decode cc_M_addText 3 = .ok (.iload_n 2, 1) := by decide +kernel
theorem dd_M_addText_4 : decode cc_M_addText 4 = .ok (.invokestatic 98, 3) := by decide +kernel
theorem dd_M_addText_7 : decode cc_M_addText 7 = .ok (.ifCond .eq 18, 3) := by decide +kernel
theorem dd_M_addText_10 : decode cc_M_addText 10 = .ok (.aload_n 0, 1) := by decide +kernel
theorem dd_M_addText_11 : decode cc_M_addText 11 = .ok (.iload_n 1, 1) := by decide +kernel
theorem dd_M_addText_12 : decode cc_M_addText 12 = .ok (.iload_n 2, 1) := by decide +kernel
theorem dd_M_addText_13 : decode cc_M_addText 13 = .ok (.invokestatic 98, 3) := by decide +kernel
theorem dd_M_addText_16 : decode cc_M_addText 16 = .ok (.invokevirtual 102, 3) := by decide +kernel
theorem dd_M_addText_19 : decode cc_M_addText 19 = .ok (.iinc 2 1, 3) := by decide +kernel
theorem dd_M_addText_22 : decode cc_M_addText 22 = .ok (.goto (-20), 3) := by decide +kernel
theorem dd_M_addText_25 : decode cc_M_addText 25 = .ok (.return_, 1) := by decide +kernel
theorem dd_M_addSpaces_0 : decode cc_M_addSpaces 0 = .ok (.iconst 0, 1) := by decide +kernel
theorem dd_M_addSpaces_1 : decode cc_M_addSpaces 1 = .ok (.istore_n 2, 1) := by decide +kernel
theorem dd_M_addSpaces_2 : decode cc_M_addSpaces 2 = .ok (.iload_n 2, 1) := by decide +kernel
theorem dd_M_addSpaces_3 : decode cc_M_addSpaces 3 = .ok (.iconst 4, 1) := by decide +kernel
theorem dd_M_addSpaces_4 : decode cc_M_addSpaces 4 = .ok (.iload_n 1, 1) := by decide +kernel
theorem dd_M_addSpaces_5 : decode cc_M_addSpaces 5 = .ok (.imul, 1) := by decide +kernel
theorem dd_M_addSpaces_6 : decode cc_M_addSpaces 6 = .ok (.if_icmp .ge 15, 3) := by decide +kernel
theorem dd_M_addSpaces_9 : decode cc_M_addSpaces 9 = .ok (.aload_n 0, 1) := by decide +kernel
theorem dd_M_addSpaces_10 : decode cc_M_addSpaces 10 = .ok (.bipush 32, 2) := by decide +kernel
theorem dd_M_addSpaces_12 : decode cc_M_addSpaces 12 = .ok (.invokevirtual 102, 3) := by decide +kernel
theorem dd_M_addSpaces_15 : decode cc_M_addSpaces 15 = .ok (.iinc 2 1, 3) := by decide +kernel
theorem dd_M_addSpaces_18 : decode cc_M_addSpaces 18 = .ok (.goto (-16), 3) := by decide +kernel
theorem dd_M_addSpaces_21 : decode cc_M_addSpaces 21 = .ok (.return_, 1) := by decide +kernel
theorem dd_M_addNumber_0 : decode cc_M_addNumber 0 = .ok (.iload_n 1, 1) := by decide +kernel
theorem dd_M_addNumber_1 : decode cc_M_addNumber 1 = .ok (.bipush 9, 2) := by decide +kernel
theorem dd_M_addNumber_3 : decode cc_M_addNumber 3 = .ok (.if_icmp .le 15, 3) := by decide +kernel
theorem dd_M_addNumber_6 : decode cc_M_addNumber 6 = .ok (.aload_n 0, 1) := by decide +kernel
theorem dd_M_addNumber_7 : decode cc_M_addNumber 7 = .ok (.bipush 48, 2) := by decide +kernel
theorem dd_M_addNumber_9 : decode cc_M_addNumber 9 = .ok (.iload_n 1, 1) := by decide +kernel
theorem dd_M_addNumber_10 : decode cc_M_addNumber 10 = .ok (.bipush 10, 2) := by decide +kernel
theorem dd_M_addNumber_12 : decode cc_M_addNumber 12 = .ok (.idiv, 1) := by decide +kernel
theorem dd_M_addNumber_13 : decode cc_M_addNumber 13 = .ok (.iadd, 1) := by decide +kernel
theorem dd_M_addNumber_14 : decode cc_M_addNumber 14 = .ok (.i2c, 1) := by decide +kernel
theorem dd_M_addNumber_15 : decode cc_M_addNumber 15 = .ok (.invokevirtual 102, 3) := by decide +kernel
theorem dd_M_addNumber_18 : decode cc_M_addNumber 18 = .ok (.aload_n 0, 1) := by decide +kernel
theorem dd_M_addNumber_19 : decode cc_M_addNumber 19 = .ok (.bipush 48, 2) := by decide +kernel
theorem dd_M_addNumber_21 : decode cc_M_addNumber 21 = .ok (.iload_n 1, 1) := by decide +kernel
theorem dd_M_addNumber_22 : decode cc_M_addNumber 22 = .ok (.bipush 10, 2) := by decide +kernel
theorem dd_M_addNumber_24 : decode cc_M_addNumber 24 = .ok (.irem, 1) := by decide +kernel
theorem dd_M_addNumber_25 : decode cc_M_addNumber 25 = .ok (.iadd, 1) := by decide +kernel
theorem dd_M_addNumber_26 : decode cc_M_addNumber 26 = .ok (.i2c, 1) := by decide +kernel
theorem dd_M_addNumber_27 : decode cc_M_addNumber 27 = .ok (.invokevirtual 102, 3) := by decide +kernel
theorem dd_M_addNumber_30 : decode cc_M_addNumber 30 = .ok (.return_, 1) := by decide +kernel
theorem dd_M_addName_0 : decode cc_M_addName 0 = .ok (.iconst 0, 1) := by decide +kernel
theorem dd_M_addName_1 : decode cc_M_addName 1 = .ok (.istore_n 2, 1) := by decide +kernel
theorem dd_M_addName_2 : decode cc_M_addName 2 = .ok (.iload_n 2, 1) := by decide +kernel
theorem dd_M_addName_3 : decode cc_M_addName 3 = .ok (.aload_n 0, 1) := by decide +kernel
theorem dd_M_addName_4 : decode cc_M_addName 4 = .ok (.getfield 27, 3) := by decide +kernel
theorem dd_M_addName_7 : decode cc_M_addName 7 = .ok (.iload_n 1, 1) := by decide +kernel
theorem dd_M_addName_8 : decode cc_M_addName 8 = .ok (.iaload, 1) := by decide +kernel
theorem dd_M_addName_9 : decode cc_M_addName 9 = .ok (.if_icmp .ge 44, 3) := by decide +kernel
theorem dd_M_addName_12 : decode cc_M_addName 12 = .ok (.aload_n 0, 1) := by decide +kernel
theorem dd_M_addName_13 : decode cc_M_addName 13 = .ok (.getfield 30, 3) := by decide +kernel
theorem dd_M_addName_16 : decode cc_M_addName 16 = .ok (.bipush 6, 2) := by decide +kernel
theorem dd_M_addName_18 : decode cc_M_addName 18 = .ok (.iload_n 1, 1) := by decide +kernel
theorem dd_M_addName_19 : decode cc_M_addName 19 = .ok (.imul, 1) := by decide +kernel
theorem dd_M_addName_20 : decode cc_M_addName 20 = .ok (.iload_n 2, 1) := by decide +kernel
theorem dd_M_addName_21 : decode cc_M_addName 21 = .ok (.iadd, 1) := by decide +kernel
theorem dd_M_addName_22 : decode cc_M_addName 22 = .ok (.caload, 1) := by decide +kernel
theorem dd_M_addName_23 : decode cc_M_addName 23 = .ok (.istore_n 3, 1) := by decide +kernel
theorem dd_M_addName_24 : decode cc_M_addName 24 = .ok (.iload_n 3, 1) := by decide +kernel
theorem dd_M_addName_25 : decode cc_M_addName 25 = .ok (.bipush 92, 2) := by decide +kernel
theorem dd_M_addName_27 : decode cc_M_addName 27 = .ok (.if_icmp .eq 9, 3) := by decide +kernel
theorem dd_M_addName_30 : decode cc_M_addName 30 = .ok (.iload_n 3, 1) := by decide +kernel
theorem dd_M_addName_31 : decode cc_M_addName 31 = .ok (.bipush 35, 2) := by decide +kernel
theorem dd_M_addName_33 : decode cc_M_addName 33 = .ok (.if_icmp .ne 9, 3) := by decide +kernel
theorem dd_M_addName_36 : decode cc_M_addName 36 = .ok (.aload_n 0, 1) := by decide +kernel
theorem dd_M_addName_37 : decode cc_M_addName 37 = .ok (.bipush 92, 2) := by decide +kernel
theorem dd_M_addName_39 : decode cc_M_addName 39 = .ok (.invokevirtual 102, 3) := by decide +kernel
theorem dd_M_addName_42 : decode cc_M_addName 42 = .ok (.aload_n 0, 1) := by decide +kernel
theorem dd_M_addName_43 : decode cc_M_addName 43 = .ok (.iload_n 3, 1) := by decide +kernel
theorem dd_M_addName_44 : decode cc_M_addName 44 = .ok (.invokevirtual 102, 3) := by decide +kernel
theorem dd_M_addName_47 : decode cc_M_addName 47 = .ok (.iinc 2 1, 3) := by decide +kernel
theorem dd_M_addName_50 : decode cc_M_addName 50 = .ok (.goto (-48), 3) := by decide +kernel
theorem dd_M_addName_53 : decode cc_M_addName 53 = .ok (.return_, 1) := by decide +kernel
theorem dd_M_addVerdict_0 : decode cc_M_addVerdict 0 = .ok (.aload_n 0, 1) := by decide +kernel
theorem dd_M_addVerdict_1 : decode cc_M_addVerdict 1 = .ok (.aload_n 0, 1) := by decide +kernel
theorem dd_M_addVerdict_2 : decode cc_M_addVerdict 2 = .ok (.iconst 0, 1) := by decide +kernel
theorem dd_M_addVerdict_3 : decode cc_M_addVerdict 3 = .ok (.iload_n 1, 1) := by decide +kernel
theorem dd_M_addVerdict_4 : decode cc_M_addVerdict 4 = .ok (.invokevirtual 81, 3) := by decide +kernel
theorem dd_M_addVerdict_7 : decode cc_M_addVerdict 7 = .ok (.invokevirtual 106, 3) := by decide +kernel
theorem dd_M_addVerdict_10 : decode cc_M_addVerdict 10 = .ok (.aload_n 0, 1) := by decide +kernel
theorem dd_M_addVerdict_11 : decode cc_M_addVerdict 11 = .ok (.iload_n 2, 1) := by decide +kernel
theorem dd_M_addVerdict_12 : decode cc_M_addVerdict 12 = .ok (.ifCond .eq 7, 3) := by decide +kernel
theorem dd_M_addVerdict_15 : decode cc_M_addVerdict 15 = .ok (.iconst 1, 1) := by decide +kernel
theorem dd_M_addVerdict_16 : decode cc_M_addVerdict 16 = .ok (.goto 4, 3) := by decide +kernel
theorem dd_M_addVerdict_19 : decode cc_M_addVerdict 19 = .ok (.iconst 2, 1) := by decide +kernel
theorem dd_M_addVerdict_20 : decode cc_M_addVerdict 20 = .ok (.invokevirtual 110, 3) := by decide +kernel
theorem dd_M_addVerdict_23 : decode cc_M_addVerdict 23 = .ok (.aload_n 0, 1) := by decide +kernel
theorem dd_M_addVerdict_24 : decode cc_M_addVerdict 24 = .ok (.aload_n 0, 1) := by decide +kernel
theorem dd_M_addVerdict_25 : decode cc_M_addVerdict 25 = .ok (.iconst 0, 1) := by decide +kernel
theorem dd_M_addVerdict_26 : decode cc_M_addVerdict 26 = .ok (.iload_n 1, 1) := by decide +kernel
theorem dd_M_addVerdict_27 : decode cc_M_addVerdict 27 = .ok (.invokevirtual 113, 3) := by decide +kernel
theorem dd_M_addVerdict_30 : decode cc_M_addVerdict 30 = .ok (.invokevirtual 116, 3) := by decide +kernel
theorem dd_M_addVerdict_33 : decode cc_M_addVerdict 33 = .ok (.aload_n 0, 1) := by decide +kernel
theorem dd_M_addVerdict_34 : decode cc_M_addVerdict 34 = .ok (.iconst 3, 1) := by decide +kernel
theorem dd_M_addVerdict_35 : decode cc_M_addVerdict 35 = .ok (.invokevirtual 110, 3) := by decide +kernel
theorem dd_M_addVerdict_38 : decode cc_M_addVerdict 38 = .ok (.aload_n 0, 1) := by decide +kernel
theorem dd_M_addVerdict_39 : decode cc_M_addVerdict 39 = .ok (.iload_n 1, 1) := by decide +kernel
theorem dd_M_addVerdict_40 : decode cc_M_addVerdict 40 = .ok (.invokevirtual 119, 3) := by decide +kernel
theorem dd_M_addVerdict_43 : decode cc_M_addVerdict 43 = .ok (.return_, 1) := by decide +kernel
theorem dd_M_finish_0 : decode cc_M_finish 0 = .ok (.aload_n 0, 1) := by decide +kernel
theorem dd_M_finish_1 : decode cc_M_finish 1 = .ok (.aload_n 0, 1) := by decide +kernel
theorem dd_M_finish_2 : decode cc_M_finish 2 = .ok (.iconst 0, 1) := by decide +kernel
theorem dd_M_finish_3 : decode cc_M_finish 3 = .ok (.iload_n 1, 1) := by decide +kernel
theorem dd_M_finish_4 : decode cc_M_finish 4 = .ok (.invokevirtual 81, 3) := by decide +kernel
theorem dd_M_finish_7 : decode cc_M_finish 7 = .ok (.iconst 1, 1) := by decide +kernel
theorem dd_M_finish_8 : decode cc_M_finish 8 = .ok (.iadd, 1) := by decide +kernel
theorem dd_M_finish_9 : decode cc_M_finish 9 = .ok (.invokevirtual 106, 3) := by decide +kernel
theorem dd_M_finish_12 : decode cc_M_finish 12 = .ok (.aload_n 0, 1) := by decide +kernel
theorem dd_M_finish_13 : decode cc_M_finish 13 = .ok (.bipush 7, 2) := by decide +kernel
theorem dd_M_finish_15 : decode cc_M_finish 15 = .ok (.invokevirtual 110, 3) := by decide +kernel
theorem dd_M_finish_18 : decode cc_M_finish 18 = .ok (.aload_n 0, 1) := by decide +kernel
theorem dd_M_finish_19 : decode cc_M_finish 19 = .ok (.aload_n 0, 1) := by decide +kernel
theorem dd_M_finish_20 : decode cc_M_finish 20 = .ok (.iconst 0, 1) := by decide +kernel
theorem dd_M_finish_21 : decode cc_M_finish 21 = .ok (.iload_n 1, 1) := by decide +kernel
theorem dd_M_finish_22 : decode cc_M_finish 22 = .ok (.invokevirtual 122, 3) := by decide +kernel
theorem dd_M_finish_25 : decode cc_M_finish 25 = .ok (.invokevirtual 116, 3) := by decide +kernel
theorem dd_M_finish_28 : decode cc_M_finish 28 = .ok (.aload_n 0, 1) := by decide +kernel
theorem dd_M_finish_29 : decode cc_M_finish 29 = .ok (.bipush 10, 2) := by decide +kernel
theorem dd_M_finish_31 : decode cc_M_finish 31 = .ok (.invokevirtual 102, 3) := by decide +kernel
theorem dd_M_finish_34 : decode cc_M_finish 34 = .ok (.aload_n 0, 1) := by decide +kernel
theorem dd_M_finish_35 : decode cc_M_finish 35 = .ok (.iload_n 1, 1) := by decide +kernel
theorem dd_M_finish_36 : decode cc_M_finish 36 = .ok (.aload_n 0, 1) := by decide +kernel
theorem dd_M_finish_37 : decode cc_M_finish 37 = .ok (.iconst 0, 1) := by decide +kernel
theorem dd_M_finish_38 : decode cc_M_finish 38 = .ok (.iload_n 1, 1) := by decide +kernel
theorem dd_M_finish_39 : decode cc_M_finish 39 = .ok (.invokevirtual 91, 3) := by decide +kernel
theorem dd_M_finish_42 : decode cc_M_finish 42 = .ok (.invokevirtual 125, 3) := by decide +kernel
theorem dd_M_finish_45 : decode cc_M_finish 45 = .ok (.aload_n 0, 1) := by decide +kernel
theorem dd_M_finish_46 : decode cc_M_finish 46 = .ok (.bipush 10, 2) := by decide +kernel
theorem dd_M_finish_48 : decode cc_M_finish 48 = .ok (.invokevirtual 102, 3) := by decide +kernel
theorem dd_M_finish_51 : decode cc_M_finish 51 = .ok (.return_, 1) := by decide +kernel
theorem dd_M_write_0 : decode cc_M_write 0 = .ok (.aload_n 0, 1) := by decide +kernel
theorem dd_M_write_1 : decode cc_M_write 1 = .ok (.iconst 0, 1) := by decide +kernel
theorem dd_M_write_2 : decode cc_M_write 2 = .ok (.putfield 95, 3) := by decide +kernel
theorem dd_M_write_5 : decode cc_M_write 5 = .ok (.aload_n 0, 1) := by decide +kernel
theorem dd_M_write_6 : decode cc_M_write 6 = .ok (.iconst 0, 1) := by decide +kernel
theorem dd_M_write_7 : decode cc_M_write 7 = .ok (.invokevirtual 110, 3) := by decide +kernel
theorem dd_M_write_10 : decode cc_M_write 10 = .ok (.aload_n 0, 1) := by decide +kernel
theorem dd_M_write_11 : decode cc_M_write 11 = .ok (.bipush 10, 2) := by decide +kernel
theorem dd_M_write_13 : decode cc_M_write 13 = .ok (.invokevirtual 102, 3) := by decide +kernel
theorem dd_M_write_16 : decode cc_M_write 16 = .ok (.iconst (-1), 1) := by decide +kernel
theorem dd_M_write_17 : decode cc_M_write 17 = .ok (.istore_n 1, 1) := by decide +kernel
theorem dd_M_write_18 : decode cc_M_write 18 = .ok (.iconst 0, 1) := by decide +kernel
theorem dd_M_write_19 : decode cc_M_write 19 = .ok (.istore_n 2, 1) := by decide +kernel
theorem dd_M_write_20 : decode cc_M_write 20 = .ok (.iload_n 2, 1) := by decide +kernel
theorem dd_M_write_21 : decode cc_M_write 21 = .ok (.aload_n 0, 1) := by decide +kernel
theorem dd_M_write_22 : decode cc_M_write 22 = .ok (.getfield 13, 3) := by decide +kernel
theorem dd_M_write_25 : decode cc_M_write 25 = .ok (.iconst 0, 1) := by decide +kernel
theorem dd_M_write_26 : decode cc_M_write 26 = .ok (.iaload, 1) := by decide +kernel
theorem dd_M_write_27 : decode cc_M_write 27 = .ok (.if_icmp .ge 119, 3) := by decide +kernel
theorem dd_M_write_30 : decode cc_M_write 30 = .ok (.iload_n 1, 1) := by decide +kernel
theorem dd_M_write_31 : decode cc_M_write 31 = .ok (.aload_n 0, 1) := by decide +kernel
theorem dd_M_write_32 : decode cc_M_write 32 = .ok (.getfield 17, 3) := by decide +kernel
theorem dd_M_write_35 : decode cc_M_write 35 = .ok (.iload_n 2, 1) := by decide +kernel
theorem dd_M_write_36 : decode cc_M_write 36 = .ok (.iaload, 1) := by decide +kernel
theorem dd_M_write_37 : decode cc_M_write 37 = .ok (.if_icmp .eq 18, 3) := by decide +kernel
theorem dd_M_write_40 : decode cc_M_write 40 = .ok (.aload_n 0, 1) := by decide +kernel
theorem dd_M_write_41 : decode cc_M_write 41 = .ok (.iload_n 1, 1) := by decide +kernel
theorem dd_M_write_42 : decode cc_M_write 42 = .ok (.invokevirtual 129, 3) := by decide +kernel
theorem dd_M_write_45 : decode cc_M_write 45 = .ok (.aload_n 0, 1) := by decide +kernel
theorem dd_M_write_46 : decode cc_M_write 46 = .ok (.getfield 17, 3) := by decide +kernel
theorem dd_M_write_49 : decode cc_M_write 49 = .ok (.iload_n 1, 1) := by decide +kernel
theorem dd_M_write_50 : decode cc_M_write 50 = .ok (.iaload, 1) := by decide +kernel
theorem dd_M_write_51 : decode cc_M_write 51 = .ok (.istore_n 1, 1) := by decide +kernel
theorem dd_M_write_52 : decode cc_M_write 52 = .ok (.goto (-22), 3) := by decide +kernel
theorem dd_M_write_55 : decode cc_M_write 55 = .ok (.aload_n 0, 1) := by decide +kernel
theorem dd_M_write_56 : decode cc_M_write 56 = .ok (.getfield 20, 3) := by decide +kernel
theorem dd_M_write_59 : decode cc_M_write 59 = .ok (.iload_n 2, 1) := by decide +kernel
theorem dd_M_write_60 : decode cc_M_write 60 = .ok (.iaload, 1) := by decide +kernel
theorem dd_M_write_61 : decode cc_M_write 61 = .ok (.iconst 4, 1) := by decide +kernel
theorem dd_M_write_62 : decode cc_M_write 62 = .ok (.if_icmp .ne 29, 3) := by decide +kernel
theorem dd_M_write_65 : decode cc_M_write 65 = .ok (.aload_n 0, 1) := by decide +kernel
theorem dd_M_write_66 : decode cc_M_write 66 = .ok (.aload_n 0, 1) := by decide +kernel
theorem dd_M_write_67 : decode cc_M_write 67 = .ok (.iconst 0, 1) := by decide +kernel
theorem dd_M_write_68 : decode cc_M_write 68 = .ok (.iload_n 2, 1) := by decide +kernel
theorem dd_M_write_69 : decode cc_M_write 69 = .ok (.invokevirtual 81, 3) := by decide +kernel
theorem dd_M_write_72 : decode cc_M_write 72 = .ok (.invokevirtual 106, 3) := by decide +kernel
theorem dd_M_write_75 : decode cc_M_write 75 = .ok (.aload_n 0, 1) := by decide +kernel
theorem dd_M_write_76 : decode cc_M_write 76 = .ok (.bipush 6, 2) := by decide +kernel
theorem dd_M_write_78 : decode cc_M_write 78 = .ok (.invokevirtual 110, 3) := by decide +kernel
theorem dd_M_write_81 : decode cc_M_write 81 = .ok (.aload_n 0, 1) := by decide +kernel
theorem dd_M_write_82 : decode cc_M_write 82 = .ok (.iload_n 2, 1) := by decide +kernel
theorem dd_M_write_83 : decode cc_M_write 83 = .ok (.invokevirtual 119, 3) := by decide +kernel
theorem dd_M_write_86 : decode cc_M_write 86 = .ok (.iload_n 2, 1) := by decide +kernel
theorem dd_M_write_87 : decode cc_M_write 87 = .ok (.istore_n 1, 1) := by decide +kernel
theorem dd_M_write_88 : decode cc_M_write 88 = .ok (.goto 46, 3) := by decide +kernel
theorem dd_M_write_91 : decode cc_M_write 91 = .ok (.aload_n 0, 1) := by decide +kernel
theorem dd_M_write_92 : decode cc_M_write 92 = .ok (.iload_n 2, 1) := by decide +kernel
theorem dd_M_write_93 : decode cc_M_write 93 = .ok (.aload_n 0, 1) := by decide +kernel
theorem dd_M_write_94 : decode cc_M_write 94 = .ok (.getfield 20, 3) := by decide +kernel
theorem dd_M_write_97 : decode cc_M_write 97 = .ok (.iload_n 2, 1) := by decide +kernel
theorem dd_M_write_98 : decode cc_M_write 98 = .ok (.iaload, 1) := by decide +kernel
theorem dd_M_write_99 : decode cc_M_write 99 = .ok (.iconst 2, 1) := by decide +kernel
theorem dd_M_write_100 : decode cc_M_write 100 = .ok (.irem, 1) := by decide +kernel
theorem dd_M_write_101 : decode cc_M_write 101 = .ok (.ifCond .ne 7, 3) := by decide +kernel
theorem dd_M_write_104 : decode cc_M_write 104 = .ok (.iconst 1, 1) := by decide +kernel
theorem dd_M_write_105 : decode cc_M_write 105 = .ok (.goto 4, 3) := by decide +kernel
theorem dd_M_write_108 : decode cc_M_write 108 = .ok (.iconst 0, 1) := by decide +kernel
theorem dd_M_write_109 : decode cc_M_write 109 = .ok (.invokevirtual 125, 3) := by decide +kernel
theorem dd_M_write_112 : decode cc_M_write 112 = .ok (.aload_n 0, 1) := by decide +kernel
theorem dd_M_write_113 : decode cc_M_write 113 = .ok (.getfield 20, 3) := by decide +kernel
theorem dd_M_write_116 : decode cc_M_write 116 = .ok (.iload_n 2, 1) := by decide +kernel
theorem dd_M_write_117 : decode cc_M_write 117 = .ok (.iaload, 1) := by decide +kernel
theorem dd_M_write_118 : decode cc_M_write 118 = .ok (.iconst 1, 1) := by decide +kernel
theorem dd_M_write_119 : decode cc_M_write 119 = .ok (.if_icmp .le 15, 3) := by decide +kernel
theorem dd_M_write_122 : decode cc_M_write 122 = .ok (.aload_n 0, 1) := by decide +kernel
theorem dd_M_write_123 : decode cc_M_write 123 = .ok (.aload_n 0, 1) := by decide +kernel
theorem dd_M_write_124 : decode cc_M_write 124 = .ok (.getfield 20, 3) := by decide +kernel
theorem dd_M_write_127 : decode cc_M_write 127 = .ok (.iload_n 2, 1) := by decide +kernel
theorem dd_M_write_128 : decode cc_M_write 128 = .ok (.iaload, 1) := by decide +kernel
theorem dd_M_write_129 : decode cc_M_write 129 = .ok (.iconst 2, 1) := by decide +kernel
theorem dd_M_write_130 : decode cc_M_write 130 = .ok (.iadd, 1) := by decide +kernel
theorem dd_M_write_131 : decode cc_M_write 131 = .ok (.invokevirtual 110, 3) := by decide +kernel
theorem dd_M_write_134 : decode cc_M_write 134 = .ok (.aload_n 0, 1) := by decide +kernel
theorem dd_M_write_135 : decode cc_M_write 135 = .ok (.bipush 10, 2) := by decide +kernel
theorem dd_M_write_137 : decode cc_M_write 137 = .ok (.invokevirtual 102, 3) := by decide +kernel
theorem dd_M_write_140 : decode cc_M_write 140 = .ok (.iinc 2 1, 3) := by decide +kernel
theorem dd_M_write_143 : decode cc_M_write 143 = .ok (.goto (-123), 3) := by decide +kernel
theorem dd_M_write_146 : decode cc_M_write 146 = .ok (.iload_n 1, 1) := by decide +kernel
theorem dd_M_write_147 : decode cc_M_write 147 = .ok (.ifCond .lt 27, 3) := by decide +kernel
theorem dd_M_write_150 : decode cc_M_write 150 = .ok (.aload_n 0, 1) := by decide +kernel
theorem dd_M_write_151 : decode cc_M_write 151 = .ok (.getfield 23, 3) := by decide +kernel
theorem dd_M_write_154 : decode cc_M_write 154 = .ok (.iload_n 1, 1) := by decide +kernel
theorem dd_M_write_155 : decode cc_M_write 155 = .ok (.baload, 1) := by decide +kernel
theorem dd_M_write_156 : decode cc_M_write 156 = .ok (.ifCond .eq 18, 3) := by decide +kernel
theorem dd_M_write_159 : decode cc_M_write 159 = .ok (.aload_n 0, 1) := by decide +kernel
theorem dd_M_write_160 : decode cc_M_write 160 = .ok (.iload_n 1, 1) := by decide +kernel
theorem dd_M_write_161 : decode cc_M_write 161 = .ok (.invokevirtual 129, 3) := by decide +kernel
theorem dd_M_write_164 : decode cc_M_write 164 = .ok (.aload_n 0, 1) := by decide +kernel
theorem dd_M_write_165 : decode cc_M_write 165 = .ok (.getfield 17, 3) := by decide +kernel
theorem dd_M_write_168 : decode cc_M_write 168 = .ok (.iload_n 1, 1) := by decide +kernel
theorem dd_M_write_169 : decode cc_M_write 169 = .ok (.iaload, 1) := by decide +kernel
theorem dd_M_write_170 : decode cc_M_write 170 = .ok (.istore_n 1, 1) := by decide +kernel
theorem dd_M_write_171 : decode cc_M_write 171 = .ok (.goto (-25), 3) := by decide +kernel
theorem dd_M_write_174 : decode cc_M_write 174 = .ok (.iload_n 1, 1) := by decide +kernel
theorem dd_M_write_175 : decode cc_M_write 175 = .ok (.ifCond .ge 22, 3) := by decide +kernel
theorem dd_M_write_178 : decode cc_M_write 178 = .ok (.aload_n 0, 1) := by decide +kernel
theorem dd_M_write_179 : decode cc_M_write 179 = .ok (.bipush 7, 2) := by decide +kernel
theorem dd_M_write_181 : decode cc_M_write 181 = .ok (.invokevirtual 110, 3) := by decide +kernel
theorem dd_M_write_184 : decode cc_M_write 184 = .ok (.aload_n 0, 1) := by decide +kernel
theorem dd_M_write_185 : decode cc_M_write 185 = .ok (.aload_n 0, 1) := by decide +kernel
theorem dd_M_write_186 : decode cc_M_write 186 = .ok (.iconst 0, 1) := by decide +kernel
theorem dd_M_write_187 : decode cc_M_write 187 = .ok (.iconst (-1), 1) := by decide +kernel
theorem dd_M_write_188 : decode cc_M_write 188 = .ok (.invokevirtual 122, 3) := by decide +kernel
theorem dd_M_write_191 : decode cc_M_write 191 = .ok (.invokevirtual 116, 3) := by decide +kernel
theorem dd_M_write_194 : decode cc_M_write 194 = .ok (.goto 9, 3) := by decide +kernel
theorem dd_M_write_197 : decode cc_M_write 197 = .ok (.aload_n 0, 1) := by decide +kernel
theorem dd_M_write_198 : decode cc_M_write 198 = .ok (.bipush 8, 2) := by decide +kernel
theorem dd_M_write_200 : decode cc_M_write 200 = .ok (.invokevirtual 110, 3) := by decide +kernel
theorem dd_M_write_203 : decode cc_M_write 203 = .ok (.aload_n 0, 1) := by decide +kernel
theorem dd_M_write_204 : decode cc_M_write 204 = .ok (.bipush 10, 2) := by decide +kernel
theorem dd_M_write_206 : decode cc_M_write 206 = .ok (.invokevirtual 102, 3) := by decide +kernel
theorem dd_M_write_209 : decode cc_M_write 209 = .ok (.aload_n 0, 1) := by decide +kernel
theorem dd_M_write_210 : decode cc_M_write 210 = .ok (.getfield 95, 3) := by decide +kernel
theorem dd_M_write_213 : decode cc_M_write 213 = .ok (.ireturn, 1) := by decide +kernel
theorem dd_M_eat_0 : decode cc_M_eat 0 = .ok (.aload_n 0, 1) := by decide +kernel
theorem dd_M_eat_1 : decode cc_M_eat 1 = .ok (.getfield 132, 3) := by decide +kernel
theorem dd_M_eat_4 : decode cc_M_eat 4 = .ok (.istore_n 2, 1) := by decide +kernel
theorem dd_M_eat_5 : decode cc_M_eat 5 = .ok (.iconst 0, 1) := by decide +kernel
theorem dd_M_eat_6 : decode cc_M_eat 6 = .ok (.istore_n 3, 1) := by decide +kernel
theorem dd_M_eat_7 : decode cc_M_eat 7 = .ok (.iload_n 1, 1) := by decide +kernel
theorem dd_M_eat_8 : decode cc_M_eat 8 = .ok (.iload_n 3, 1) := by decide +kernel
theorem dd_M_eat_9 : decode cc_M_eat 9 = .ok (.invokestatic 98, 3) := by decide +kernel
theorem dd_M_eat_12 : decode cc_M_eat 12 = .ok (.ifCond .eq 36, 3) := by decide +kernel
theorem dd_M_eat_15 : decode cc_M_eat 15 = .ok (.iload_n 2, 1) := by decide +kernel
theorem dd_M_eat_16 : decode cc_M_eat 16 = .ok (.aload_n 0, 1) := by decide +kernel
theorem dd_M_eat_17 : decode cc_M_eat 17 = .ok (.getfield 135, 3) := by decide +kernel
theorem dd_M_eat_20 : decode cc_M_eat 20 = .ok (.if_icmp .ge 17, 3) := by decide +kernel
theorem dd_M_eat_23 : decode cc_M_eat 23 = .ok (.aload_n 0, 1) := by decide +kernel
theorem dd_M_eat_24 : decode cc_M_eat 24 = .ok (.getfield 33, 3) := by decide +kernel
theorem dd_M_eat_27 : decode cc_M_eat 27 = .ok (.iload_n 2, 1) := by decide +kernel
theorem dd_M_eat_28 : decode cc_M_eat 28 = .ok (.caload, 1) := by decide +kernel
theorem dd_M_eat_29 : decode cc_M_eat 29 = .ok (.iload_n 1, 1) := by decide +kernel
theorem dd_M_eat_30 : decode cc_M_eat 30 = .ok (.iload_n 3, 1) := by decide +kernel
theorem dd_M_eat_31 : decode cc_M_eat 31 = .ok (.invokestatic 98, 3) := by decide +kernel
theorem dd_M_eat_34 : decode cc_M_eat 34 = .ok (.if_icmp .eq 5, 3) := by decide +kernel
theorem dd_M_eat_37 : decode cc_M_eat 37 = .ok (.iconst 0, 1) := by decide +kernel
theorem dd_M_eat_38 : decode cc_M_eat 38 = .ok (.ireturn, 1) := by decide +kernel
theorem dd_M_eat_39 : decode cc_M_eat 39 = .ok (.iinc 2 1, 3) := by decide +kernel
theorem dd_M_eat_42 : decode cc_M_eat 42 = .ok (.iinc 3 1, 3) := by decide +kernel
theorem dd_M_eat_45 : decode cc_M_eat 45 = .ok (.goto (-38), 3) := by decide +kernel
theorem dd_M_eat_48 : decode cc_M_eat 48 = .ok (.aload_n 0, 1) := by decide +kernel
theorem dd_M_eat_49 : decode cc_M_eat 49 = .ok (.iload_n 2, 1) := by decide +kernel
theorem dd_M_eat_50 : decode cc_M_eat 50 = .ok (.putfield 132, 3) := by decide +kernel
theorem dd_M_eat_53 : decode cc_M_eat 53 = .ok (.iconst 1, 1) := by decide +kernel
theorem dd_M_eat_54 : decode cc_M_eat 54 = .ok (.ireturn, 1) := by decide +kernel
theorem dd_M_eatSpaces_0 : decode cc_M_eatSpaces 0 = .ok (.iconst 0, 1) := by decide +kernel
theorem dd_M_eatSpaces_1 : decode cc_M_eatSpaces 1 = .ok (.istore_n 2, 1) := by decide +kernel
theorem dd_M_eatSpaces_2 : decode cc_M_eatSpaces 2 = .ok (.iload_n 2, 1) := by decide +kernel
theorem dd_M_eatSpaces_3 : decode cc_M_eatSpaces 3 = .ok (.iconst 4, 1) := by decide +kernel
theorem dd_M_eatSpaces_4 : decode cc_M_eatSpaces 4 = .ok (.iload_n 1, 1) := by decide +kernel
theorem dd_M_eatSpaces_5 : decode cc_M_eatSpaces 5 = .ok (.imul, 1) := by decide +kernel
theorem dd_M_eatSpaces_6 : decode cc_M_eatSpaces 6 = .ok (.if_icmp .ge 46, 3) := by decide +kernel
theorem dd_M_eatSpaces_9 : decode cc_M_eatSpaces 9 = .ok (.aload_n 0, 1) := by decide +kernel
theorem dd_M_eatSpaces_10 : decode cc_M_eatSpaces 10 = .ok (.getfield 132, 3) := by decide +kernel
theorem dd_M_eatSpaces_13 : decode cc_M_eatSpaces 13 = .ok (.aload_n 0, 1) := by decide +kernel
theorem dd_M_eatSpaces_14 : decode cc_M_eatSpaces 14 = .ok (.getfield 135, 3) := by decide +kernel
theorem dd_M_eatSpaces_17 : decode cc_M_eatSpaces 17 = .ok (.if_icmp .ge 17, 3) := by decide +kernel
theorem dd_M_eatSpaces_20 : decode cc_M_eatSpaces 20 = .ok (.aload_n 0, 1) := by decide +kernel
theorem dd_M_eatSpaces_21 : decode cc_M_eatSpaces 21 = .ok (.getfield 33, 3) := by decide +kernel
theorem dd_M_eatSpaces_24 : decode cc_M_eatSpaces 24 = .ok (.aload_n 0, 1) := by decide +kernel
theorem dd_M_eatSpaces_25 : decode cc_M_eatSpaces 25 = .ok (.getfield 132, 3) := by decide +kernel
theorem dd_M_eatSpaces_28 : decode cc_M_eatSpaces 28 = .ok (.caload, 1) := by decide +kernel
theorem dd_M_eatSpaces_29 : decode cc_M_eatSpaces 29 = .ok (.bipush 32, 2) := by decide +kernel
theorem dd_M_eatSpaces_31 : decode cc_M_eatSpaces 31 = .ok (.if_icmp .eq 5, 3) := by decide +kernel
theorem dd_M_eatSpaces_34 : decode cc_M_eatSpaces 34 = .ok (.iconst 0, 1) := by decide +kernel
theorem dd_M_eatSpaces_35 : decode cc_M_eatSpaces 35 = .ok (.ireturn, 1) := by decide +kernel
theorem dd_M_eatSpaces_36 : decode cc_M_eatSpaces 36 = .ok (.aload_n 0, 1) := by decide +kernel
theorem dd_M_eatSpaces_37 : decode cc_M_eatSpaces 37 = .ok (.dup, 1) := by decide +kernel
theorem dd_M_eatSpaces_38 : decode cc_M_eatSpaces 38 = .ok (.getfield 132, 3) := by decide +kernel
theorem dd_M_eatSpaces_41 : decode cc_M_eatSpaces 41 = .ok (.iconst 1, 1) := by decide +kernel
theorem dd_M_eatSpaces_42 : decode cc_M_eatSpaces 42 = .ok (.iadd, 1) := by decide +kernel
theorem dd_M_eatSpaces_43 : decode cc_M_eatSpaces 43 = .ok (.putfield 132, 3) := by decide +kernel
theorem dd_M_eatSpaces_46 : decode cc_M_eatSpaces 46 = .ok (.iinc 2 1, 3) := by decide +kernel
theorem dd_M_eatSpaces_49 : decode cc_M_eatSpaces 49 = .ok (.goto (-47), 3) := by decide +kernel
theorem dd_M_eatSpaces_52 : decode cc_M_eatSpaces 52 = .ok (.iconst 1, 1) := by decide +kernel
theorem dd_M_eatSpaces_53 : decode cc_M_eatSpaces 53 = .ok (.ireturn, 1) := by decide +kernel
theorem dd_M_eatDigit_0 : decode cc_M_eatDigit 0 = .ok (.aload_n 0, 1) := by decide +kernel
theorem dd_M_eatDigit_1 : decode cc_M_eatDigit 1 = .ok (.getfield 132, 3) := by decide +kernel
theorem dd_M_eatDigit_4 : decode cc_M_eatDigit 4 = .ok (.aload_n 0, 1) := by decide +kernel
theorem dd_M_eatDigit_5 : decode cc_M_eatDigit 5 = .ok (.getfield 135, 3) := by decide +kernel
theorem dd_M_eatDigit_8 : decode cc_M_eatDigit 8 = .ok (.if_icmp .ge 19, 3) := by decide +kernel
theorem dd_M_eatDigit_11 : decode cc_M_eatDigit 11 = .ok (.aload_n 0, 1) := by decide +kernel
theorem dd_M_eatDigit_12 : decode cc_M_eatDigit 12 = .ok (.getfield 33, 3) := by decide +kernel
theorem dd_M_eatDigit_15 : decode cc_M_eatDigit 15 = .ok (.aload_n 0, 1) := by decide +kernel
theorem dd_M_eatDigit_16 : decode cc_M_eatDigit 16 = .ok (.getfield 132, 3) := by decide +kernel
theorem dd_M_eatDigit_19 : decode cc_M_eatDigit 19 = .ok (.caload, 1) := by decide +kernel
theorem dd_M_eatDigit_20 : decode cc_M_eatDigit 20 = .ok (.bipush 48, 2) := by decide +kernel
theorem dd_M_eatDigit_22 : decode cc_M_eatDigit 22 = .ok (.iload_n 1, 1) := by decide +kernel
theorem dd_M_eatDigit_23 : decode cc_M_eatDigit 23 = .ok (.iadd, 1) := by decide +kernel
theorem dd_M_eatDigit_24 : decode cc_M_eatDigit 24 = .ok (.if_icmp .eq 5, 3) := by decide +kernel
theorem dd_M_eatDigit_27 : decode cc_M_eatDigit 27 = .ok (.iconst 0, 1) := by decide +kernel
theorem dd_M_eatDigit_28 : decode cc_M_eatDigit 28 = .ok (.ireturn, 1) := by decide +kernel
theorem dd_M_eatDigit_29 : decode cc_M_eatDigit 29 = .ok (.aload_n 0, 1) := by decide +kernel
theorem dd_M_eatDigit_30 : decode cc_M_eatDigit 30 = .ok (.dup, 1) := by decide +kernel
theorem dd_M_eatDigit_31 : decode cc_M_eatDigit 31 = .ok (.getfield 132, 3) := by decide +kernel
theorem dd_M_eatDigit_34 : decode cc_M_eatDigit 34 = .ok (.iconst 1, 1) := by decide +kernel
theorem dd_M_eatDigit_35 : decode cc_M_eatDigit 35 = .ok (.iadd, 1) := by decide +kernel
theorem dd_M_eatDigit_36 : decode cc_M_eatDigit 36 = .ok (.putfield 132, 3) := by decide +kernel
theorem dd_M_eatDigit_39 : decode cc_M_eatDigit 39 = .ok (.iconst 1, 1) := by decide +kernel
theorem dd_M_eatDigit_40 : decode cc_M_eatDigit 40 = .ok (.ireturn, 1) := by decide +kernel
theorem dd_M_eatNumber_0 : decode cc_M_eatNumber 0 = .ok (.iload_n 1, 1) := by decide +kernel
theorem dd_M_eatNumber_1 : decode cc_M_eatNumber 1 = .ok (.bipush 10, 2) := by decide +kernel
theorem dd_M_eatNumber_3 : decode cc_M_eatNumber 3 = .ok (.if_icmp .lt 14, 3) := by decide +kernel
theorem dd_M_eatNumber_6 : decode cc_M_eatNumber 6 = .ok (.aload_n 0, 1) := by decide +kernel
theorem dd_M_eatNumber_7 : decode cc_M_eatNumber 7 = .ok (.iload_n 1, 1) := by decide +kernel
theorem dd_M_eatNumber_8 : decode cc_M_eatNumber 8 = .ok (.bipush 10, 2) := by decide +kernel
theorem dd_M_eatNumber_10 : decode cc_M_eatNumber 10 = .ok (.idiv, 1) := by decide +kernel
theorem dd_M_eatNumber_11 : decode cc_M_eatNumber 11 = .ok (.invokevirtual 138, 3) := by decide +kernel
theorem dd_M_eatNumber_14 : decode cc_M_eatNumber 14 = .ok (.ifCond .eq 18, 3) := by decide +kernel
theorem dd_M_eatNumber_17 : decode cc_M_eatNumber 17 = .ok (.aload_n 0, 1) := by decide +kernel
theorem dd_M_eatNumber_18 : decode cc_M_eatNumber 18 = .ok (.iload_n 1, 1) := by decide +kernel
theorem dd_M_eatNumber_19 : decode cc_M_eatNumber 19 = .ok (.bipush 10, 2) := by decide +kernel
theorem dd_M_eatNumber_21 : decode cc_M_eatNumber 21 = .ok (.irem, 1) := by decide +kernel
theorem dd_M_eatNumber_22 : decode cc_M_eatNumber 22 = .ok (.invokevirtual 138, 3) := by decide +kernel
theorem dd_M_eatNumber_25 : decode cc_M_eatNumber 25 = .ok (.ifCond .eq 7, 3) := by decide +kernel
theorem dd_M_eatNumber_28 : decode cc_M_eatNumber 28 = .ok (.iconst 1, 1) := by decide +kernel
theorem dd_M_eatNumber_29 : decode cc_M_eatNumber 29 = .ok (.goto 4, 3) := by decide +kernel
theorem dd_M_eatNumber_32 : decode cc_M_eatNumber 32 = .ok (.iconst 0, 1) := by decide +kernel
theorem dd_M_eatNumber_33 : decode cc_M_eatNumber 33 = .ok (.ireturn, 1) := by decide +kernel
theorem dd_M_eatName_0 : decode cc_M_eatName 0 = .ok (.aload_n 0, 1) := by decide +kernel
theorem dd_M_eatName_1 : decode cc_M_eatName 1 = .ok (.iconst 0, 1) := by decide +kernel
theorem dd_M_eatName_2 : decode cc_M_eatName 2 = .ok (.putfield 141, 3) := by decide +kernel
theorem dd_M_eatName_5 : decode cc_M_eatName 5 = .ok (.aload_n 0, 1) := by decide +kernel
theorem dd_M_eatName_6 : decode cc_M_eatName 6 = .ok (.getfield 132, 3) := by decide +kernel
theorem dd_M_eatName_9 : decode cc_M_eatName 9 = .ok (.iload_n 1, 1) := by decide +kernel
theorem dd_M_eatName_10 : decode cc_M_eatName 10 = .ok (.if_icmp .ge 125, 3) := by decide +kernel
theorem dd_M_eatName_13 : decode cc_M_eatName 13 = .ok (.aload_n 0, 1) := by decide +kernel
theorem dd_M_eatName_14 : decode cc_M_eatName 14 = .ok (.getfield 141, 3) := by decide +kernel
theorem dd_M_eatName_17 : decode cc_M_eatName 17 = .ok (.bipush 6, 2) := by decide +kernel
theorem dd_M_eatName_19 : decode cc_M_eatName 19 = .ok (.if_icmp .ge 116, 3) := by decide +kernel
theorem dd_M_eatName_22 : decode cc_M_eatName 22 = .ok (.aload_n 0, 1) := by decide +kernel
theorem dd_M_eatName_23 : decode cc_M_eatName 23 = .ok (.getfield 33, 3) := by decide +kernel
theorem dd_M_eatName_26 : decode cc_M_eatName 26 = .ok (.aload_n 0, 1) := by decide +kernel
theorem dd_M_eatName_27 : decode cc_M_eatName 27 = .ok (.getfield 132, 3) := by decide +kernel
theorem dd_M_eatName_30 : decode cc_M_eatName 30 = .ok (.caload, 1) := by decide +kernel
theorem dd_M_eatName_31 : decode cc_M_eatName 31 = .ok (.istore_n 2, 1) := by decide +kernel
theorem dd_M_eatName_32 : decode cc_M_eatName 32 = .ok (.iload_n 2, 1) := by decide +kernel
theorem dd_M_eatName_33 : decode cc_M_eatName 33 = .ok (.bipush 35, 2) := by decide +kernel
theorem dd_M_eatName_35 : decode cc_M_eatName 35 = .ok (.if_icmp .ne 5, 3) := by decide +kernel
theorem dd_M_eatName_38 : decode cc_M_eatName 38 = .ok (.iconst 0, 1) := by decide +kernel
theorem dd_M_eatName_39 : decode cc_M_eatName 39 = .ok (.ireturn, 1) := by decide +kernel
theorem dd_M_eatName_40 : decode cc_M_eatName 40 = .ok (.iload_n 2, 1) := by decide +kernel
theorem dd_M_eatName_41 : decode cc_M_eatName 41 = .ok (.bipush 92, 2) := by decide +kernel
theorem dd_M_eatName_43 : decode cc_M_eatName 43 = .ok (.if_icmp .ne 51, 3) := by decide +kernel
theorem dd_M_eatName_46 : decode cc_M_eatName 46 = .ok (.aload_n 0, 1) := by decide +kernel
theorem dd_M_eatName_47 : decode cc_M_eatName 47 = .ok (.dup, 1) := by decide +kernel
theorem dd_M_eatName_48 : decode cc_M_eatName 48 = .ok (.getfield 132, 3) := by decide +kernel
theorem dd_M_eatName_51 : decode cc_M_eatName 51 = .ok (.iconst 1, 1) := by decide +kernel
theorem dd_M_eatName_52 : decode cc_M_eatName 52 = .ok (.iadd, 1) := by decide +kernel
theorem dd_M_eatName_53 : decode cc_M_eatName 53 = .ok (.putfield 132, 3) := by decide +kernel
theorem dd_M_eatName_56 : decode cc_M_eatName 56 = .ok (.aload_n 0, 1) := by decide +kernel
theorem dd_M_eatName_57 : decode cc_M_eatName 57 = .ok (.getfield 132, 3) := by decide +kernel
theorem dd_M_eatName_60 : decode cc_M_eatName 60 = .ok (.iload_n 1, 1) := by decide +kernel
theorem dd_M_eatName_61 : decode cc_M_eatName 61 = .ok (.if_icmp .ge 31, 3) := by decide +kernel
theorem dd_M_eatName_64 : decode cc_M_eatName 64 = .ok (.aload_n 0, 1) := by decide +kernel
theorem dd_M_eatName_65 : decode cc_M_eatName 65 = .ok (.getfield 33, 3) := by decide +kernel
theorem dd_M_eatName_68 : decode cc_M_eatName 68 = .ok (.aload_n 0, 1) := by decide +kernel
theorem dd_M_eatName_69 : decode cc_M_eatName 69 = .ok (.getfield 132, 3) := by decide +kernel
theorem dd_M_eatName_72 : decode cc_M_eatName 72 = .ok (.caload, 1) := by decide +kernel
theorem dd_M_eatName_73 : decode cc_M_eatName 73 = .ok (.bipush 92, 2) := by decide +kernel
theorem dd_M_eatName_75 : decode cc_M_eatName 75 = .ok (.if_icmp .eq 19, 3) := by decide +kernel
theorem dd_M_eatName_78 : decode cc_M_eatName 78 = .ok (.aload_n 0, 1) := by decide +kernel
theorem dd_M_eatName_79 : decode cc_M_eatName 79 = .ok (.getfield 33, 3) := by decide +kernel
theorem dd_M_eatName_82 : decode cc_M_eatName 82 = .ok (.aload_n 0, 1) := by decide +kernel
theorem dd_M_eatName_83 : decode cc_M_eatName 83 = .ok (.getfield 132, 3) := by decide +kernel
theorem dd_M_eatName_86 : decode cc_M_eatName 86 = .ok (.caload, 1) := by decide +kernel
theorem dd_M_eatName_87 : decode cc_M_eatName 87 = .ok (.bipush 35, 2) := by decide +kernel
theorem dd_M_eatName_89 : decode cc_M_eatName 89 = .ok (.if_icmp .eq 5, 3) := by decide +kernel
theorem dd_M_eatName_92 : decode cc_M_eatName 92 = .ok (.iconst 0, 1) := by decide +kernel
theorem dd_M_eatName_93 : decode cc_M_eatName 93 = .ok (.ireturn, 1) := by decide +kernel
theorem dd_M_eatName_94 : decode cc_M_eatName 94 = .ok (.aload_n 0, 1) := by decide +kernel
theorem dd_M_eatName_95 : decode cc_M_eatName 95 = .ok (.getfield 36, 3) := by decide +kernel
theorem dd_M_eatName_98 : decode cc_M_eatName 98 = .ok (.aload_n 0, 1) := by decide +kernel
theorem dd_M_eatName_99 : decode cc_M_eatName 99 = .ok (.getfield 141, 3) := by decide +kernel
theorem dd_M_eatName_102 : decode cc_M_eatName 102 = .ok (.aload_n 0, 1) := by decide +kernel
theorem dd_M_eatName_103 : decode cc_M_eatName 103 = .ok (.getfield 33, 3) := by decide +kernel
theorem dd_M_eatName_106 : decode cc_M_eatName 106 = .ok (.aload_n 0, 1) := by decide +kernel
theorem dd_M_eatName_107 : decode cc_M_eatName 107 = .ok (.getfield 132, 3) := by decide +kernel
theorem dd_M_eatName_110 : decode cc_M_eatName 110 = .ok (.caload, 1) := by decide +kernel
theorem dd_M_eatName_111 : decode cc_M_eatName 111 = .ok (.castore, 1) := by decide +kernel
theorem dd_M_eatName_112 : decode cc_M_eatName 112 = .ok (.aload_n 0, 1) := by decide +kernel
theorem dd_M_eatName_113 : decode cc_M_eatName 113 = .ok (.dup, 1) := by decide +kernel
theorem dd_M_eatName_114 : decode cc_M_eatName 114 = .ok (.getfield 141, 3) := by decide +kernel
theorem dd_M_eatName_117 : decode cc_M_eatName 117 = .ok (.iconst 1, 1) := by decide +kernel
theorem dd_M_eatName_118 : decode cc_M_eatName 118 = .ok (.iadd, 1) := by decide +kernel
theorem dd_M_eatName_119 : decode cc_M_eatName 119 = .ok (.putfield 141, 3) := by decide +kernel
theorem dd_M_eatName_122 : decode cc_M_eatName 122 = .ok (.aload_n 0, 1) := by decide +kernel
theorem dd_M_eatName_123 : decode cc_M_eatName 123 = .ok (.dup, 1) := by decide +kernel
theorem dd_M_eatName_124 : decode cc_M_eatName 124 = .ok (.getfield 132, 3) := by decide +kernel
theorem dd_M_eatName_127 : decode cc_M_eatName 127 = .ok (.iconst 1, 1) := by decide +kernel
theorem dd_M_eatName_128 : decode cc_M_eatName 128 = .ok (.iadd, 1) := by decide +kernel
theorem dd_M_eatName_129 : decode cc_M_eatName 129 = .ok (.putfield 132, 3) := by decide +kernel
theorem dd_M_eatName_132 : decode cc_M_eatName 132 = .ok (.goto (-127), 3) := by decide +kernel
theorem dd_M_eatName_135 : decode cc_M_eatName 135 = .ok (.aload_n 0, 1) := by decide +kernel
theorem dd_M_eatName_136 : decode cc_M_eatName 136 = .ok (.getfield 132, 3) := by decide +kernel
theorem dd_M_eatName_139 : decode cc_M_eatName 139 = .ok (.iload_n 1, 1) := by decide +kernel
theorem dd_M_eatName_140 : decode cc_M_eatName 140 = .ok (.if_icmp .ne 7, 3) := by decide +kernel
theorem dd_M_eatName_143 : decode cc_M_eatName 143 = .ok (.iconst 1, 1) := by decide +kernel
theorem dd_M_eatName_144 : decode cc_M_eatName 144 = .ok (.goto 4, 3) := by decide +kernel
theorem dd_M_eatName_147 : decode cc_M_eatName 147 = .ok (.iconst 0, 1) := by decide +kernel
theorem dd_M_eatName_148 : decode cc_M_eatName 148 = .ok (.ireturn, 1) := by decide +kernel
theorem dd_M_accept_0 : decode cc_M_accept 0 = .ok (.aload_n 0, 1) := by decide +kernel
theorem dd_M_accept_1 : decode cc_M_accept 1 = .ok (.getfield 13, 3) := by decide +kernel
theorem dd_M_accept_4 : decode cc_M_accept 4 = .ok (.iconst 1, 1) := by decide +kernel
theorem dd_M_accept_5 : decode cc_M_accept 5 = .ok (.iaload, 1) := by decide +kernel
theorem dd_M_accept_6 : decode cc_M_accept 6 = .ok (.bipush 24, 2) := by decide +kernel
theorem dd_M_accept_8 : decode cc_M_accept 8 = .ok (.if_icmp .ne 5, 3) := by decide +kernel
theorem dd_M_accept_11 : decode cc_M_accept 11 = .ok (.iconst 0, 1) := by decide +kernel
theorem dd_M_accept_12 : decode cc_M_accept 12 = .ok (.ireturn, 1) := by decide +kernel
theorem dd_M_accept_13 : decode cc_M_accept 13 = .ok (.aload_n 0, 1) := by decide +kernel
theorem dd_M_accept_14 : decode cc_M_accept 14 = .ok (.iconst 1, 1) := by decide +kernel
theorem dd_M_accept_15 : decode cc_M_accept 15 = .ok (.iload_n 1, 1) := by decide +kernel
theorem dd_M_accept_16 : decode cc_M_accept 16 = .ok (.invokevirtual 77, 3) := by decide +kernel
theorem dd_M_accept_19 : decode cc_M_accept 19 = .ok (.istore_n 2, 1) := by decide +kernel
theorem dd_M_accept_20 : decode cc_M_accept 20 = .ok (.aload_n 0, 1) := by decide +kernel
theorem dd_M_accept_21 : decode cc_M_accept 21 = .ok (.getfield 27, 3) := by decide +kernel
theorem dd_M_accept_24 : decode cc_M_accept 24 = .ok (.bipush 24, 2) := by decide +kernel
theorem dd_M_accept_26 : decode cc_M_accept 26 = .ok (.iload_n 2, 1) := by decide +kernel
theorem dd_M_accept_27 : decode cc_M_accept 27 = .ok (.iadd, 1) := by decide +kernel
theorem dd_M_accept_28 : decode cc_M_accept 28 = .ok (.aload_n 0, 1) := by decide +kernel
theorem dd_M_accept_29 : decode cc_M_accept 29 = .ok (.getfield 141, 3) := by decide +kernel
theorem dd_M_accept_32 : decode cc_M_accept 32 = .ok (.iastore, 1) := by decide +kernel
theorem dd_M_accept_33 : decode cc_M_accept 33 = .ok (.iconst 0, 1) := by decide +kernel
theorem dd_M_accept_34 : decode cc_M_accept 34 = .ok (.istore_n 3, 1) := by decide +kernel
theorem dd_M_accept_35 : decode cc_M_accept 35 = .ok (.iload_n 3, 1) := by decide +kernel
theorem dd_M_accept_36 : decode cc_M_accept 36 = .ok (.aload_n 0, 1) := by decide +kernel
theorem dd_M_accept_37 : decode cc_M_accept 37 = .ok (.getfield 141, 3) := by decide +kernel
theorem dd_M_accept_40 : decode cc_M_accept 40 = .ok (.if_icmp .ge 29, 3) := by decide +kernel
theorem dd_M_accept_43 : decode cc_M_accept 43 = .ok (.aload_n 0, 1) := by decide +kernel
theorem dd_M_accept_44 : decode cc_M_accept 44 = .ok (.getfield 30, 3) := by decide +kernel
theorem dd_M_accept_47 : decode cc_M_accept 47 = .ok (.bipush 6, 2) := by decide +kernel
theorem dd_M_accept_49 : decode cc_M_accept 49 = .ok (.bipush 24, 2) := by decide +kernel
theorem dd_M_accept_51 : decode cc_M_accept 51 = .ok (.iload_n 2, 1) := by decide +kernel
theorem dd_M_accept_52 : decode cc_M_accept 52 = .ok (.iadd, 1) := by decide +kernel
theorem dd_M_accept_53 : decode cc_M_accept 53 = .ok (.imul, 1) := by decide +kernel
theorem dd_M_accept_54 : decode cc_M_accept 54 = .ok (.iload_n 3, 1) := by decide +kernel
theorem dd_M_accept_55 : decode cc_M_accept 55 = .ok (.iadd, 1) := by decide +kernel
theorem dd_M_accept_56 : decode cc_M_accept 56 = .ok (.aload_n 0, 1) := by decide +kernel
theorem dd_M_accept_57 : decode cc_M_accept 57 = .ok (.getfield 36, 3) := by decide +kernel
theorem dd_M_accept_60 : decode cc_M_accept 60 = .ok (.iload_n 3, 1) := by decide +kernel
theorem dd_M_accept_61 : decode cc_M_accept 61 = .ok (.caload, 1) := by decide +kernel
theorem dd_M_accept_62 : decode cc_M_accept 62 = .ok (.castore, 1) := by decide +kernel
theorem dd_M_accept_63 : decode cc_M_accept 63 = .ok (.iinc 3 1, 3) := by decide +kernel
theorem dd_M_accept_66 : decode cc_M_accept 66 = .ok (.goto (-31), 3) := by decide +kernel
theorem dd_M_accept_69 : decode cc_M_accept 69 = .ok (.aload_n 0, 1) := by decide +kernel
theorem dd_M_accept_70 : decode cc_M_accept 70 = .ok (.iload_n 1, 1) := by decide +kernel
theorem dd_M_accept_71 : decode cc_M_accept 71 = .ok (.iconst 4, 1) := by decide +kernel
theorem dd_M_accept_72 : decode cc_M_accept 72 = .ok (.if_icmp .ne 7, 3) := by decide +kernel
theorem dd_M_accept_75 : decode cc_M_accept 75 = .ok (.iload_n 2, 1) := by decide +kernel
theorem dd_M_accept_76 : decode cc_M_accept 76 = .ok (.goto 7, 3) := by decide +kernel
theorem dd_M_accept_79 : decode cc_M_accept 79 = .ok (.aload_n 0, 1) := by decide +kernel
theorem dd_M_accept_80 : decode cc_M_accept 80 = .ok (.getfield 144, 3) := by decide +kernel
theorem dd_M_accept_83 : decode cc_M_accept 83 = .ok (.putfield 144, 3) := by decide +kernel
theorem dd_M_accept_86 : decode cc_M_accept 86 = .ok (.iconst 1, 1) := by decide +kernel
theorem dd_M_accept_87 : decode cc_M_accept 87 = .ok (.ireturn, 1) := by decide +kernel
theorem dd_M_isName_0 : decode cc_M_isName 0 = .ok (.aload_n 0, 1) := by decide +kernel
theorem dd_M_isName_1 : decode cc_M_isName 1 = .ok (.getfield 27, 3) := by decide +kernel
theorem dd_M_isName_4 : decode cc_M_isName 4 = .ok (.bipush 24, 2) := by decide +kernel
theorem dd_M_isName_6 : decode cc_M_isName 6 = .ok (.iload_n 1, 1) := by decide +kernel
theorem dd_M_isName_7 : decode cc_M_isName 7 = .ok (.iadd, 1) := by decide +kernel
theorem dd_M_isName_8 : decode cc_M_isName 8 = .ok (.iaload, 1) := by decide +kernel
theorem dd_M_isName_9 : decode cc_M_isName 9 = .ok (.aload_n 0, 1) := by decide +kernel
theorem dd_M_isName_10 : decode cc_M_isName 10 = .ok (.getfield 141, 3) := by decide +kernel
theorem dd_M_isName_13 : decode cc_M_isName 13 = .ok (.if_icmp .ne 7, 3) := by decide +kernel
theorem dd_M_isName_16 : decode cc_M_isName 16 = .ok (.iconst 1, 1) := by decide +kernel
theorem dd_M_isName_17 : decode cc_M_isName 17 = .ok (.goto 4, 3) := by decide +kernel
theorem dd_M_isName_20 : decode cc_M_isName 20 = .ok (.iconst 0, 1) := by decide +kernel
theorem dd_M_isName_21 : decode cc_M_isName 21 = .ok (.istore_n 2, 1) := by decide +kernel
theorem dd_M_isName_22 : decode cc_M_isName 22 = .ok (.iconst 0, 1) := by decide +kernel
theorem dd_M_isName_23 : decode cc_M_isName 23 = .ok (.istore_n 3, 1) := by decide +kernel
theorem dd_M_isName_24 : decode cc_M_isName 24 = .ok (.iload_n 3, 1) := by decide +kernel
theorem dd_M_isName_25 : decode cc_M_isName 25 = .ok (.aload_n 0, 1) := by decide +kernel
theorem dd_M_isName_26 : decode cc_M_isName 26 = .ok (.getfield 141, 3) := by decide +kernel
theorem dd_M_isName_29 : decode cc_M_isName 29 = .ok (.if_icmp .ge 42, 3) := by decide +kernel
theorem dd_M_isName_32 : decode cc_M_isName 32 = .ok (.iload_n 2, 1) := by decide +kernel
theorem dd_M_isName_33 : decode cc_M_isName 33 = .ok (.ifCond .eq 38, 3) := by decide +kernel
theorem dd_M_isName_36 : decode cc_M_isName 36 = .ok (.aload_n 0, 1) := by decide +kernel
theorem dd_M_isName_37 : decode cc_M_isName 37 = .ok (.getfield 30, 3) := by decide +kernel
theorem dd_M_isName_40 : decode cc_M_isName 40 = .ok (.bipush 6, 2) := by decide +kernel
theorem dd_M_isName_42 : decode cc_M_isName 42 = .ok (.bipush 24, 2) := by decide +kernel
theorem dd_M_isName_44 : decode cc_M_isName 44 = .ok (.iload_n 1, 1) := by decide +kernel
theorem dd_M_isName_45 : decode cc_M_isName 45 = .ok (.iadd, 1) := by decide +kernel
theorem dd_M_isName_46 : decode cc_M_isName 46 = .ok (.imul, 1) := by decide +kernel
theorem dd_M_isName_47 : decode cc_M_isName 47 = .ok (.iload_n 3, 1) := by decide +kernel
theorem dd_M_isName_48 : decode cc_M_isName 48 = .ok (.iadd, 1) := by decide +kernel
theorem dd_M_isName_49 : decode cc_M_isName 49 = .ok (.caload, 1) := by decide +kernel
theorem dd_M_isName_50 : decode cc_M_isName 50 = .ok (.aload_n 0, 1) := by decide +kernel
theorem dd_M_isName_51 : decode cc_M_isName 51 = .ok (.getfield 36, 3) := by decide +kernel
theorem dd_M_isName_54 : decode cc_M_isName 54 = .ok (.iload_n 3, 1) := by decide +kernel
theorem dd_M_isName_55 : decode cc_M_isName 55 = .ok (.caload, 1) := by decide +kernel
theorem dd_M_isName_56 : decode cc_M_isName 56 = .ok (.if_icmp .ne 7, 3) := by decide +kernel
theorem dd_M_isName_59 : decode cc_M_isName 59 = .ok (.iconst 1, 1) := by decide +kernel
theorem dd_M_isName_60 : decode cc_M_isName 60 = .ok (.goto 4, 3) := by decide +kernel
theorem dd_M_isName_63 : decode cc_M_isName 63 = .ok (.iconst 0, 1) := by decide +kernel
theorem dd_M_isName_64 : decode cc_M_isName 64 = .ok (.istore_n 2, 1) := by decide +kernel
theorem dd_M_isName_65 : decode cc_M_isName 65 = .ok (.iinc 3 1, 3) := by decide +kernel
theorem dd_M_isName_68 : decode cc_M_isName 68 = .ok (.goto (-44), 3) := by decide +kernel
theorem dd_M_isName_71 : decode cc_M_isName 71 = .ok (.iload_n 2, 1) := by decide +kernel
theorem dd_M_isName_72 : decode cc_M_isName 72 = .ok (.ireturn, 1) := by decide +kernel
theorem dd_M_closing_0 : decode cc_M_closing 0 = .ok (.aload_n 0, 1) := by decide +kernel
theorem dd_M_closing_1 : decode cc_M_closing 1 = .ok (.iconst 1, 1) := by decide +kernel
theorem dd_M_closing_2 : decode cc_M_closing 2 = .ok (.aload_n 0, 1) := by decide +kernel
theorem dd_M_closing_3 : decode cc_M_closing 3 = .ok (.getfield 144, 3) := by decide +kernel
theorem dd_M_closing_6 : decode cc_M_closing 6 = .ok (.invokevirtual 81, 3) := by decide +kernel
theorem dd_M_closing_9 : decode cc_M_closing 9 = .ok (.istore_n 1, 1) := by decide +kernel
end
section
theorem dd_M_closing_10 : decode cc_M_closing 10 = .ok (.aload_n 0, 1) := by decide +kernel
theorem dd_M_closing_11 : decode cc_M_closing 11 = .ok (.iload_n 1, 1) := by decide +kernel
theorem dd_M_closing_12 : decode cc_M_closing 12 = .ok (.invokevirtual 147, 3) := by decide +kernel
theorem dd_M_closing_15 : decode cc_M_closing 15 = .ok (.ifCond .eq 77, 3) := by decide +kernel
theorem dd_M_closing_18 : decode cc_M_closing 18 = .ok (.aload_n 0, 1) := by decide +kernel
theorem dd_M_closing_19 : decode cc_M_closing 19 = .ok (.aload_n 0, 1) := by decide +kernel
theorem dd_M_closing_20 : decode cc_M_closing 20 = .ok (.iconst 1, 1) := by decide +kernel
theorem dd_M_closing_21 : decode cc_M_closing 21 = .ok (.aload_n 0, 1) := by decide +kernel
theorem dd_M_closing_22 : decode cc_M_closing 22 = .ok (.getfield 144, 3) := by decide +kernel
theorem dd_M_closing_25 : decode cc_M_closing 25 = .ok (.invokevirtual 91, 3) := by decide +kernel
theorem dd_M_closing_28 : decode cc_M_closing 28 = .ok (.ifCond .eq 7, 3) := by decide +kernel
theorem dd_M_closing_31 : decode cc_M_closing 31 = .ok (.iconst 1, 1) := by decide +kernel
theorem dd_M_closing_32 : decode cc_M_closing 32 = .ok (.goto 4, 3) := by decide +kernel
theorem dd_M_closing_35 : decode cc_M_closing 35 = .ok (.iconst 2, 1) := by decide +kernel
theorem dd_M_closing_36 : decode cc_M_closing 36 = .ok (.invokevirtual 150, 3) := by decide +kernel
theorem dd_M_closing_39 : decode cc_M_closing 39 = .ok (.ifCond .eq 53, 3) := by decide +kernel
theorem dd_M_closing_42 : decode cc_M_closing 42 = .ok (.aload_n 0, 1) := by decide +kernel
theorem dd_M_closing_43 : decode cc_M_closing 43 = .ok (.aload_n 0, 1) := by decide +kernel
theorem dd_M_closing_44 : decode cc_M_closing 44 = .ok (.iconst 1, 1) := by decide +kernel
theorem dd_M_closing_45 : decode cc_M_closing 45 = .ok (.aload_n 0, 1) := by decide +kernel
theorem dd_M_closing_46 : decode cc_M_closing 46 = .ok (.getfield 144, 3) := by decide +kernel
theorem dd_M_closing_49 : decode cc_M_closing 49 = .ok (.invokevirtual 113, 3) := by decide +kernel
theorem dd_M_closing_52 : decode cc_M_closing 52 = .ok (.invokevirtual 153, 3) := by decide +kernel
theorem dd_M_closing_55 : decode cc_M_closing 55 = .ok (.ifCond .eq 37, 3) := by decide +kernel
theorem dd_M_closing_58 : decode cc_M_closing 58 = .ok (.aload_n 0, 1) := by decide +kernel
theorem dd_M_closing_59 : decode cc_M_closing 59 = .ok (.iconst 3, 1) := by decide +kernel
theorem dd_M_closing_60 : decode cc_M_closing 60 = .ok (.invokevirtual 150, 3) := by decide +kernel
theorem dd_M_closing_63 : decode cc_M_closing 63 = .ok (.ifCond .eq 29, 3) := by decide +kernel
theorem dd_M_closing_66 : decode cc_M_closing 66 = .ok (.aload_n 0, 1) := by decide +kernel
theorem dd_M_closing_67 : decode cc_M_closing 67 = .ok (.aload_n 0, 1) := by decide +kernel
theorem dd_M_closing_68 : decode cc_M_closing 68 = .ok (.getfield 135, 3) := by decide +kernel
theorem dd_M_closing_71 : decode cc_M_closing 71 = .ok (.invokevirtual 156, 3) := by decide +kernel
theorem dd_M_closing_74 : decode cc_M_closing 74 = .ok (.ifCond .eq 18, 3) := by decide +kernel
theorem dd_M_closing_77 : decode cc_M_closing 77 = .ok (.aload_n 0, 1) := by decide +kernel
theorem dd_M_closing_78 : decode cc_M_closing 78 = .ok (.aload_n 0, 1) := by decide +kernel
theorem dd_M_closing_79 : decode cc_M_closing 79 = .ok (.getfield 144, 3) := by decide +kernel
theorem dd_M_closing_82 : decode cc_M_closing 82 = .ok (.invokevirtual 159, 3) := by decide +kernel
theorem dd_M_closing_85 : decode cc_M_closing 85 = .ok (.ifCond .eq 7, 3) := by decide +kernel
theorem dd_M_closing_88 : decode cc_M_closing 88 = .ok (.iconst 1, 1) := by decide +kernel
theorem dd_M_closing_89 : decode cc_M_closing 89 = .ok (.goto 4, 3) := by decide +kernel
theorem dd_M_closing_92 : decode cc_M_closing 92 = .ok (.iconst 0, 1) := by decide +kernel
theorem dd_M_closing_93 : decode cc_M_closing 93 = .ok (.istore_n 2, 1) := by decide +kernel
theorem dd_M_closing_94 : decode cc_M_closing 94 = .ok (.iload_n 2, 1) := by decide +kernel
theorem dd_M_closing_95 : decode cc_M_closing 95 = .ok (.ifCond .eq 37, 3) := by decide +kernel
theorem dd_M_closing_98 : decode cc_M_closing 98 = .ok (.aload_n 0, 1) := by decide +kernel
theorem dd_M_closing_99 : decode cc_M_closing 99 = .ok (.getfield 23, 3) := by decide +kernel
theorem dd_M_closing_102 : decode cc_M_closing 102 = .ok (.bipush 24, 2) := by decide +kernel
theorem dd_M_closing_104 : decode cc_M_closing 104 = .ok (.aload_n 0, 1) := by decide +kernel
theorem dd_M_closing_105 : decode cc_M_closing 105 = .ok (.getfield 144, 3) := by decide +kernel
theorem dd_M_closing_108 : decode cc_M_closing 108 = .ok (.iadd, 1) := by decide +kernel
theorem dd_M_closing_109 : decode cc_M_closing 109 = .ok (.iconst 1, 1) := by decide +kernel
theorem dd_M_closing_110 : decode cc_M_closing 110 = .ok (.bastore, 1) := by decide +kernel
theorem dd_M_closing_111 : decode cc_M_closing 111 = .ok (.aload_n 0, 1) := by decide +kernel
theorem dd_M_closing_112 : decode cc_M_closing 112 = .ok (.aload_n 0, 1) := by decide +kernel
theorem dd_M_closing_113 : decode cc_M_closing 113 = .ok (.getfield 17, 3) := by decide +kernel
theorem dd_M_closing_116 : decode cc_M_closing 116 = .ok (.bipush 24, 2) := by decide +kernel
theorem dd_M_closing_118 : decode cc_M_closing 118 = .ok (.aload_n 0, 1) := by decide +kernel
theorem dd_M_closing_119 : decode cc_M_closing 119 = .ok (.getfield 144, 3) := by decide +kernel
theorem dd_M_closing_122 : decode cc_M_closing 122 = .ok (.iadd, 1) := by decide +kernel
theorem dd_M_closing_123 : decode cc_M_closing 123 = .ok (.iaload, 1) := by decide +kernel
theorem dd_M_closing_124 : decode cc_M_closing 124 = .ok (.putfield 144, 3) := by decide +kernel
theorem dd_M_closing_127 : decode cc_M_closing 127 = .ok (.aload_n 0, 1) := by decide +kernel
theorem dd_M_closing_128 : decode cc_M_closing 128 = .ok (.iconst 0, 1) := by decide +kernel
theorem dd_M_closing_129 : decode cc_M_closing 129 = .ok (.putfield 162, 3) := by decide +kernel
theorem dd_M_closing_132 : decode cc_M_closing 132 = .ok (.iload_n 2, 1) := by decide +kernel
theorem dd_M_closing_133 : decode cc_M_closing 133 = .ok (.ireturn, 1) := by decide +kernel
theorem dd_M_plan_0 : decode cc_M_plan 0 = .ok (.aload_n 0, 1) := by decide +kernel
theorem dd_M_plan_1 : decode cc_M_plan 1 = .ok (.iload_n 1, 1) := by decide +kernel
theorem dd_M_plan_2 : decode cc_M_plan 2 = .ok (.putfield 132, 3) := by decide +kernel
theorem dd_M_plan_5 : decode cc_M_plan 5 = .ok (.aload_n 0, 1) := by decide +kernel
theorem dd_M_plan_6 : decode cc_M_plan 6 = .ok (.iload_n 2, 1) := by decide +kernel
theorem dd_M_plan_7 : decode cc_M_plan 7 = .ok (.invokevirtual 147, 3) := by decide +kernel
theorem dd_M_plan_10 : decode cc_M_plan 10 = .ok (.ifCond .eq 39, 3) := by decide +kernel
theorem dd_M_plan_13 : decode cc_M_plan 13 = .ok (.aload_n 0, 1) := by decide +kernel
theorem dd_M_plan_14 : decode cc_M_plan 14 = .ok (.bipush 7, 2) := by decide +kernel
theorem dd_M_plan_16 : decode cc_M_plan 16 = .ok (.invokevirtual 150, 3) := by decide +kernel
theorem dd_M_plan_19 : decode cc_M_plan 19 = .ok (.ifCond .eq 30, 3) := by decide +kernel
theorem dd_M_plan_22 : decode cc_M_plan 22 = .ok (.aload_n 0, 1) := by decide +kernel
theorem dd_M_plan_23 : decode cc_M_plan 23 = .ok (.aload_n 0, 1) := by decide +kernel
theorem dd_M_plan_24 : decode cc_M_plan 24 = .ok (.iconst 1, 1) := by decide +kernel
theorem dd_M_plan_25 : decode cc_M_plan 25 = .ok (.aload_n 0, 1) := by decide +kernel
theorem dd_M_plan_26 : decode cc_M_plan 26 = .ok (.getfield 144, 3) := by decide +kernel
theorem dd_M_plan_29 : decode cc_M_plan 29 = .ok (.invokevirtual 122, 3) := by decide +kernel
theorem dd_M_plan_32 : decode cc_M_plan 32 = .ok (.invokevirtual 153, 3) := by decide +kernel
theorem dd_M_plan_35 : decode cc_M_plan 35 = .ok (.ifCond .eq 14, 3) := by decide +kernel
theorem dd_M_plan_38 : decode cc_M_plan 38 = .ok (.aload_n 0, 1) := by decide +kernel
theorem dd_M_plan_39 : decode cc_M_plan 39 = .ok (.getfield 132, 3) := by decide +kernel
theorem dd_M_plan_42 : decode cc_M_plan 42 = .ok (.aload_n 0, 1) := by decide +kernel
theorem dd_M_plan_43 : decode cc_M_plan 43 = .ok (.getfield 135, 3) := by decide +kernel
theorem dd_M_plan_46 : decode cc_M_plan 46 = .ok (.if_icmp .eq 5, 3) := by decide +kernel
theorem dd_M_plan_49 : decode cc_M_plan 49 = .ok (.iconst 0, 1) := by decide +kernel
theorem dd_M_plan_50 : decode cc_M_plan 50 = .ok (.ireturn, 1) := by decide +kernel
theorem dd_M_plan_51 : decode cc_M_plan 51 = .ok (.aload_n 0, 1) := by decide +kernel
theorem dd_M_plan_52 : decode cc_M_plan 52 = .ok (.aload_n 0, 1) := by decide +kernel
theorem dd_M_plan_53 : decode cc_M_plan 53 = .ok (.getfield 144, 3) := by decide +kernel
theorem dd_M_plan_56 : decode cc_M_plan 56 = .ok (.ifCond .lt 7, 3) := by decide +kernel
theorem dd_M_plan_59 : decode cc_M_plan 59 = .ok (.iconst 1, 1) := by decide +kernel
theorem dd_M_plan_60 : decode cc_M_plan 60 = .ok (.goto 4, 3) := by decide +kernel
theorem dd_M_plan_63 : decode cc_M_plan 63 = .ok (.iconst 0, 1) := by decide +kernel
theorem dd_M_plan_64 : decode cc_M_plan 64 = .ok (.putfield 162, 3) := by decide +kernel
theorem dd_M_plan_67 : decode cc_M_plan 67 = .ok (.aload_n 0, 1) := by decide +kernel
theorem dd_M_plan_68 : decode cc_M_plan 68 = .ok (.aload_n 0, 1) := by decide +kernel
theorem dd_M_plan_69 : decode cc_M_plan 69 = .ok (.getfield 144, 3) := by decide +kernel
theorem dd_M_plan_72 : decode cc_M_plan 72 = .ok (.ifCond .ge 7, 3) := by decide +kernel
theorem dd_M_plan_75 : decode cc_M_plan 75 = .ok (.iconst 1, 1) := by decide +kernel
theorem dd_M_plan_76 : decode cc_M_plan 76 = .ok (.goto 4, 3) := by decide +kernel
theorem dd_M_plan_79 : decode cc_M_plan 79 = .ok (.iconst 0, 1) := by decide +kernel
theorem dd_M_plan_80 : decode cc_M_plan 80 = .ok (.putfield 166, 3) := by decide +kernel
theorem dd_M_plan_83 : decode cc_M_plan 83 = .ok (.iconst 1, 1) := by decide +kernel
theorem dd_M_plan_84 : decode cc_M_plan 84 = .ok (.ireturn, 1) := by decide +kernel
theorem dd_M_bail_0 : decode cc_M_bail 0 = .ok (.aload_n 0, 1) := by decide +kernel
theorem dd_M_bail_1 : decode cc_M_bail 1 = .ok (.iload_n 1, 1) := by decide +kernel
theorem dd_M_bail_2 : decode cc_M_bail 2 = .ok (.putfield 132, 3) := by decide +kernel
theorem dd_M_bail_5 : decode cc_M_bail 5 = .ok (.aload_n 0, 1) := by decide +kernel
theorem dd_M_bail_6 : decode cc_M_bail 6 = .ok (.aload_n 0, 1) := by decide +kernel
theorem dd_M_bail_7 : decode cc_M_bail 7 = .ok (.getfield 144, 3) := by decide +kernel
theorem dd_M_bail_10 : decode cc_M_bail 10 = .ok (.ifCond .lt 27, 3) := by decide +kernel
theorem dd_M_bail_13 : decode cc_M_bail 13 = .ok (.aload_n 0, 1) := by decide +kernel
theorem dd_M_bail_14 : decode cc_M_bail 14 = .ok (.bipush 8, 2) := by decide +kernel
theorem dd_M_bail_16 : decode cc_M_bail 16 = .ok (.invokevirtual 150, 3) := by decide +kernel
theorem dd_M_bail_19 : decode cc_M_bail 19 = .ok (.ifCond .eq 18, 3) := by decide +kernel
theorem dd_M_bail_22 : decode cc_M_bail 22 = .ok (.aload_n 0, 1) := by decide +kernel
theorem dd_M_bail_23 : decode cc_M_bail 23 = .ok (.getfield 132, 3) := by decide +kernel
theorem dd_M_bail_26 : decode cc_M_bail 26 = .ok (.aload_n 0, 1) := by decide +kernel
theorem dd_M_bail_27 : decode cc_M_bail 27 = .ok (.getfield 135, 3) := by decide +kernel
theorem dd_M_bail_30 : decode cc_M_bail 30 = .ok (.if_icmp .ne 7, 3) := by decide +kernel
theorem dd_M_bail_33 : decode cc_M_bail 33 = .ok (.iconst 1, 1) := by decide +kernel
theorem dd_M_bail_34 : decode cc_M_bail 34 = .ok (.goto 4, 3) := by decide +kernel
theorem dd_M_bail_37 : decode cc_M_bail 37 = .ok (.iconst 0, 1) := by decide +kernel
theorem dd_M_bail_38 : decode cc_M_bail 38 = .ok (.putfield 166, 3) := by decide +kernel
theorem dd_M_bail_41 : decode cc_M_bail 41 = .ok (.aload_n 0, 1) := by decide +kernel
theorem dd_M_bail_42 : decode cc_M_bail 42 = .ok (.getfield 166, 3) := by decide +kernel
theorem dd_M_bail_45 : decode cc_M_bail 45 = .ok (.ireturn, 1) := by decide +kernel
theorem dd_M_subtest_0 : decode cc_M_subtest 0 = .ok (.aload_n 0, 1) := by decide +kernel
theorem dd_M_subtest_1 : decode cc_M_subtest 1 = .ok (.iload_n 1, 1) := by decide +kernel
theorem dd_M_subtest_2 : decode cc_M_subtest 2 = .ok (.putfield 132, 3) := by decide +kernel
theorem dd_M_subtest_5 : decode cc_M_subtest 5 = .ok (.iload_n 2, 1) := by decide +kernel
theorem dd_M_subtest_6 : decode cc_M_subtest 6 = .ok (.iconst 3, 1) := by decide +kernel
theorem dd_M_subtest_7 : decode cc_M_subtest 7 = .ok (.if_icmp .ge 43, 3) := by decide +kernel
theorem dd_M_subtest_10 : decode cc_M_subtest 10 = .ok (.aload_n 0, 1) := by decide +kernel
theorem dd_M_subtest_11 : decode cc_M_subtest 11 = .ok (.iload_n 2, 1) := by decide +kernel
theorem dd_M_subtest_12 : decode cc_M_subtest 12 = .ok (.invokevirtual 147, 3) := by decide +kernel
theorem dd_M_subtest_15 : decode cc_M_subtest 15 = .ok (.ifCond .eq 35, 3) := by decide +kernel
theorem dd_M_subtest_18 : decode cc_M_subtest 18 = .ok (.aload_n 0, 1) := by decide +kernel
theorem dd_M_subtest_19 : decode cc_M_subtest 19 = .ok (.bipush 6, 2) := by decide +kernel
theorem dd_M_subtest_21 : decode cc_M_subtest 21 = .ok (.invokevirtual 150, 3) := by decide +kernel
theorem dd_M_subtest_24 : decode cc_M_subtest 24 = .ok (.ifCond .eq 26, 3) := by decide +kernel
theorem dd_M_subtest_27 : decode cc_M_subtest 27 = .ok (.aload_n 0, 1) := by decide +kernel
theorem dd_M_subtest_28 : decode cc_M_subtest 28 = .ok (.aload_n 0, 1) := by decide +kernel
theorem dd_M_subtest_29 : decode cc_M_subtest 29 = .ok (.getfield 135, 3) := by decide +kernel
theorem dd_M_subtest_32 : decode cc_M_subtest 32 = .ok (.invokevirtual 156, 3) := by decide +kernel
theorem dd_M_subtest_35 : decode cc_M_subtest 35 = .ok (.ifCond .eq 15, 3) := by decide +kernel
theorem dd_M_subtest_38 : decode cc_M_subtest 38 = .ok (.aload_n 0, 1) := by decide +kernel
theorem dd_M_subtest_39 : decode cc_M_subtest 39 = .ok (.iconst 4, 1) := by decide +kernel
theorem dd_M_subtest_40 : decode cc_M_subtest 40 = .ok (.invokevirtual 169, 3) := by decide +kernel
theorem dd_M_subtest_43 : decode cc_M_subtest 43 = .ok (.ifCond .eq 7, 3) := by decide +kernel
theorem dd_M_subtest_46 : decode cc_M_subtest 46 = .ok (.iconst 1, 1) := by decide +kernel
theorem dd_M_subtest_47 : decode cc_M_subtest 47 = .ok (.goto 4, 3) := by decide +kernel
theorem dd_M_subtest_50 : decode cc_M_subtest 50 = .ok (.iconst 0, 1) := by decide +kernel
theorem dd_M_subtest_51 : decode cc_M_subtest 51 = .ok (.ireturn, 1) := by decide +kernel
theorem dd_M_endsWith_0 : decode cc_M_endsWith 0 = .ok (.aload_n 0, 1) := by decide +kernel
theorem dd_M_endsWith_1 : decode cc_M_endsWith 1 = .ok (.getfield 132, 3) := by decide +kernel
theorem dd_M_endsWith_4 : decode cc_M_endsWith 4 = .ok (.istore 4, 2) := by decide +kernel
theorem dd_M_endsWith_6 : decode cc_M_endsWith 6 = .ok (.aload_n 0, 1) := by decide +kernel
theorem dd_M_endsWith_7 : decode cc_M_endsWith 7 = .ok (.aload_n 0, 1) := by decide +kernel
theorem dd_M_endsWith_8 : decode cc_M_endsWith 8 = .ok (.getfield 135, 3) := by decide +kernel
theorem dd_M_endsWith_11 : decode cc_M_endsWith 11 = .ok (.iload_n 3, 1) := by decide +kernel
theorem dd_M_endsWith_12 : decode cc_M_endsWith 12 = .ok (.isub, 1) := by decide +kernel
theorem dd_M_endsWith_13 : decode cc_M_endsWith 13 = .ok (.putfield 132, 3) := by decide +kernel
theorem dd_M_endsWith_16 : decode cc_M_endsWith 16 = .ok (.aload_n 0, 1) := by decide +kernel
theorem dd_M_endsWith_17 : decode cc_M_endsWith 17 = .ok (.getfield 132, 3) := by decide +kernel
theorem dd_M_endsWith_20 : decode cc_M_endsWith 20 = .ok (.iload_n 1, 1) := by decide +kernel
theorem dd_M_endsWith_21 : decode cc_M_endsWith 21 = .ok (.if_icmp .lt 15, 3) := by decide +kernel
theorem dd_M_endsWith_24 : decode cc_M_endsWith 24 = .ok (.aload_n 0, 1) := by decide +kernel
theorem dd_M_endsWith_25 : decode cc_M_endsWith 25 = .ok (.iload_n 2, 1) := by decide +kernel
theorem dd_M_endsWith_26 : decode cc_M_endsWith 26 = .ok (.invokevirtual 150, 3) := by decide +kernel
theorem dd_M_endsWith_29 : decode cc_M_endsWith 29 = .ok (.ifCond .eq 7, 3) := by decide +kernel
theorem dd_M_endsWith_32 : decode cc_M_endsWith 32 = .ok (.iconst 1, 1) := by decide +kernel
theorem dd_M_endsWith_33 : decode cc_M_endsWith 33 = .ok (.goto 4, 3) := by decide +kernel
theorem dd_M_endsWith_36 : decode cc_M_endsWith 36 = .ok (.iconst 0, 1) := by decide +kernel
theorem dd_M_endsWith_37 : decode cc_M_endsWith 37 = .ok (.istore 5, 2) := by decide +kernel
theorem dd_M_endsWith_39 : decode cc_M_endsWith 39 = .ok (.aload_n 0, 1) := by decide +kernel
theorem dd_M_endsWith_40 : decode cc_M_endsWith 40 = .ok (.iload 4, 2) := by decide +kernel
theorem dd_M_endsWith_42 : decode cc_M_endsWith 42 = .ok (.putfield 132, 3) := by decide +kernel
theorem dd_M_endsWith_45 : decode cc_M_endsWith 45 = .ok (.iload 5, 2) := by decide +kernel
theorem dd_M_endsWith_47 : decode cc_M_endsWith 47 = .ok (.ireturn, 1) := by decide +kernel
theorem dd_M_testLine_0 : decode cc_M_testLine 0 = .ok (.aload_n 0, 1) := by decide +kernel
theorem dd_M_testLine_1 : decode cc_M_testLine 1 = .ok (.iload_n 1, 1) := by decide +kernel
theorem dd_M_testLine_2 : decode cc_M_testLine 2 = .ok (.putfield 132, 3) := by decide +kernel
theorem dd_M_testLine_5 : decode cc_M_testLine 5 = .ok (.aload_n 0, 1) := by decide +kernel
theorem dd_M_testLine_6 : decode cc_M_testLine 6 = .ok (.iload_n 2, 1) := by decide +kernel
theorem dd_M_testLine_7 : decode cc_M_testLine 7 = .ok (.invokevirtual 147, 3) := by decide +kernel
theorem dd_M_testLine_10 : decode cc_M_testLine 10 = .ok (.ifCond .ne 5, 3) := by decide +kernel
theorem dd_M_testLine_13 : decode cc_M_testLine 13 = .ok (.iconst 0, 1) := by decide +kernel
theorem dd_M_testLine_14 : decode cc_M_testLine 14 = .ok (.ireturn, 1) := by decide +kernel
theorem dd_M_testLine_15 : decode cc_M_testLine 15 = .ok (.aload_n 0, 1) := by decide +kernel
theorem dd_M_testLine_16 : decode cc_M_testLine 16 = .ok (.iconst 1, 1) := by decide +kernel
theorem dd_M_testLine_17 : decode cc_M_testLine 17 = .ok (.invokevirtual 150, 3) := by decide +kernel
theorem dd_M_testLine_20 : decode cc_M_testLine 20 = .ok (.istore_n 3, 1) := by decide +kernel
theorem dd_M_testLine_21 : decode cc_M_testLine 21 = .ok (.aload_n 0, 1) := by decide +kernel
theorem dd_M_testLine_22 : decode cc_M_testLine 22 = .ok (.iconst 1, 1) := by decide +kernel
theorem dd_M_testLine_23 : decode cc_M_testLine 23 = .ok (.aload_n 0, 1) := by decide +kernel
theorem dd_M_testLine_24 : decode cc_M_testLine 24 = .ok (.getfield 144, 3) := by decide +kernel
theorem dd_M_testLine_27 : decode cc_M_testLine 27 = .ok (.invokevirtual 122, 3) := by decide +kernel
theorem dd_M_testLine_30 : decode cc_M_testLine 30 = .ok (.istore 4, 2) := by decide +kernel
theorem dd_M_testLine_32 : decode cc_M_testLine 32 = .ok (.iload_n 3, 1) := by decide +kernel
theorem dd_M_testLine_33 : decode cc_M_testLine 33 = .ok (.ifCond .ne 11, 3) := by decide +kernel
theorem dd_M_testLine_36 : decode cc_M_testLine 36 = .ok (.aload_n 0, 1) := by decide +kernel
theorem dd_M_testLine_37 : decode cc_M_testLine 37 = .ok (.iconst 2, 1) := by decide +kernel
theorem dd_M_testLine_38 : decode cc_M_testLine 38 = .ok (.invokevirtual 150, 3) := by decide +kernel
theorem dd_M_testLine_41 : decode cc_M_testLine 41 = .ok (.ifCond .eq 22, 3) := by decide +kernel
theorem dd_M_testLine_44 : decode cc_M_testLine 44 = .ok (.aload_n 0, 1) := by decide +kernel
theorem dd_M_testLine_45 : decode cc_M_testLine 45 = .ok (.iload 4, 2) := by decide +kernel
theorem dd_M_testLine_47 : decode cc_M_testLine 47 = .ok (.iconst 1, 1) := by decide +kernel
theorem dd_M_testLine_48 : decode cc_M_testLine 48 = .ok (.iadd, 1) := by decide +kernel
theorem dd_M_testLine_49 : decode cc_M_testLine 49 = .ok (.invokevirtual 153, 3) := by decide +kernel
theorem dd_M_testLine_52 : decode cc_M_testLine 52 = .ok (.ifCond .eq 11, 3) := by decide +kernel
theorem dd_M_testLine_55 : decode cc_M_testLine 55 = .ok (.aload_n 0, 1) := by decide +kernel
theorem dd_M_testLine_56 : decode cc_M_testLine 56 = .ok (.iconst 3, 1) := by decide +kernel
theorem dd_M_testLine_57 : decode cc_M_testLine 57 = .ok (.invokevirtual 150, 3) := by decide +kernel
theorem dd_M_testLine_60 : decode cc_M_testLine 60 = .ok (.ifCond .ne 5, 3) := by decide +kernel
theorem dd_M_testLine_63 : decode cc_M_testLine 63 = .ok (.iconst 0, 1) := by decide +kernel
theorem dd_M_testLine_64 : decode cc_M_testLine 64 = .ok (.ireturn, 1) := by decide +kernel
theorem dd_M_testLine_65 : decode cc_M_testLine 65 = .ok (.aload_n 0, 1) := by decide +kernel
theorem dd_M_testLine_66 : decode cc_M_testLine 66 = .ok (.aload_n 0, 1) := by decide +kernel
theorem dd_M_testLine_67 : decode cc_M_testLine 67 = .ok (.getfield 132, 3) := by decide +kernel
theorem dd_M_testLine_70 : decode cc_M_testLine 70 = .ok (.iload_n 3, 1) := by decide +kernel
theorem dd_M_testLine_71 : decode cc_M_testLine 71 = .ok (.ifCond .eq 7, 3) := by decide +kernel
theorem dd_M_testLine_74 : decode cc_M_testLine 74 = .ok (.iconst 4, 1) := by decide +kernel
theorem dd_M_testLine_75 : decode cc_M_testLine 75 = .ok (.goto 4, 3) := by decide +kernel
theorem dd_M_testLine_78 : decode cc_M_testLine 78 = .ok (.iconst 5, 1) := by decide +kernel
theorem dd_M_testLine_79 : decode cc_M_testLine 79 = .ok (.bipush 7, 2) := by decide +kernel
theorem dd_M_testLine_81 : decode cc_M_testLine 81 = .ok (.invokevirtual 172, 3) := by decide +kernel
theorem dd_M_testLine_84 : decode cc_M_testLine 84 = .ok (.istore 5, 2) := by decide +kernel
theorem dd_M_testLine_86 : decode cc_M_testLine 86 = .ok (.aload_n 0, 1) := by decide +kernel
theorem dd_M_testLine_87 : decode cc_M_testLine 87 = .ok (.iload 5, 2) := by decide +kernel
theorem dd_M_testLine_89 : decode cc_M_testLine 89 = .ok (.ifCond .eq 13, 3) := by decide +kernel
theorem dd_M_testLine_92 : decode cc_M_testLine 92 = .ok (.aload_n 0, 1) := by decide +kernel
theorem dd_M_testLine_93 : decode cc_M_testLine 93 = .ok (.getfield 135, 3) := by decide +kernel
theorem dd_M_testLine_96 : decode cc_M_testLine 96 = .ok (.bipush 7, 2) := by decide +kernel
theorem dd_M_testLine_98 : decode cc_M_testLine 98 = .ok (.isub, 1) := by decide +kernel
theorem dd_M_testLine_99 : decode cc_M_testLine 99 = .ok (.goto 7, 3) := by decide +kernel
theorem dd_M_testLine_102 : decode cc_M_testLine 102 = .ok (.aload_n 0, 1) := by decide +kernel
theorem dd_M_testLine_103 : decode cc_M_testLine 103 = .ok (.getfield 135, 3) := by decide +kernel
theorem dd_M_testLine_106 : decode cc_M_testLine 106 = .ok (.invokevirtual 156, 3) := by decide +kernel
theorem dd_M_testLine_109 : decode cc_M_testLine 109 = .ok (.ifCond .eq 40, 3) := by decide +kernel
theorem dd_M_testLine_112 : decode cc_M_testLine 112 = .ok (.aload_n 0, 1) := by decide +kernel
theorem dd_M_testLine_113 : decode cc_M_testLine 113 = .ok (.iload 5, 2) := by decide +kernel
theorem dd_M_testLine_115 : decode cc_M_testLine 115 = .ok (.ifCond .eq 15, 3) := by decide +kernel
theorem dd_M_testLine_118 : decode cc_M_testLine 118 = .ok (.iload_n 3, 1) := by decide +kernel
theorem dd_M_testLine_119 : decode cc_M_testLine 119 = .ok (.ifCond .eq 7, 3) := by decide +kernel
theorem dd_M_testLine_122 : decode cc_M_testLine 122 = .ok (.iconst 2, 1) := by decide +kernel
theorem dd_M_testLine_123 : decode cc_M_testLine 123 = .ok (.goto 16, 3) := by decide +kernel
theorem dd_M_testLine_126 : decode cc_M_testLine 126 = .ok (.iconst 3, 1) := by decide +kernel
theorem dd_M_testLine_127 : decode cc_M_testLine 127 = .ok (.goto 12, 3) := by decide +kernel
theorem dd_M_testLine_130 : decode cc_M_testLine 130 = .ok (.iload_n 3, 1) := by decide +kernel
theorem dd_M_testLine_131 : decode cc_M_testLine 131 = .ok (.ifCond .eq 7, 3) := by decide +kernel
theorem dd_M_testLine_134 : decode cc_M_testLine 134 = .ok (.iconst 0, 1) := by decide +kernel
theorem dd_M_testLine_135 : decode cc_M_testLine 135 = .ok (.goto 4, 3) := by decide +kernel
theorem dd_M_testLine_138 : decode cc_M_testLine 138 = .ok (.iconst 1, 1) := by decide +kernel
theorem dd_M_testLine_139 : decode cc_M_testLine 139 = .ok (.invokevirtual 169, 3) := by decide +kernel
theorem dd_M_testLine_142 : decode cc_M_testLine 142 = .ok (.ifCond .eq 7, 3) := by decide +kernel
theorem dd_M_testLine_145 : decode cc_M_testLine 145 = .ok (.iconst 1, 1) := by decide +kernel
theorem dd_M_testLine_146 : decode cc_M_testLine 146 = .ok (.goto 4, 3) := by decide +kernel
theorem dd_M_testLine_149 : decode cc_M_testLine 149 = .ok (.iconst 0, 1) := by decide +kernel
theorem dd_M_testLine_150 : decode cc_M_testLine 150 = .ok (.ireturn, 1) := by decide +kernel
theorem dd_M_line_0 : decode cc_M_line 0 = .ok (.aload_n 0, 1) := by decide +kernel
theorem dd_M_line_1 : decode cc_M_line 1 = .ok (.getfield 166, 3) := by decide +kernel
theorem dd_M_line_4 : decode cc_M_line 4 = .ok (.ifCond .eq 5, 3) := by decide +kernel
theorem dd_M_line_7 : decode cc_M_line 7 = .ok (.iconst 0, 1) := by decide +kernel
theorem dd_M_line_8 : decode cc_M_line 8 = .ok (.ireturn, 1) := by decide +kernel
theorem dd_M_line_9 : decode cc_M_line 9 = .ok (.aload_n 0, 1) := by decide +kernel
theorem dd_M_line_10 : decode cc_M_line 10 = .ok (.iload_n 1, 1) := by decide +kernel
theorem dd_M_line_11 : decode cc_M_line 11 = .ok (.putfield 132, 3) := by decide +kernel
theorem dd_M_line_14 : decode cc_M_line 14 = .ok (.aload_n 0, 1) := by decide +kernel
theorem dd_M_line_15 : decode cc_M_line 15 = .ok (.getfield 162, 3) := by decide +kernel
theorem dd_M_line_18 : decode cc_M_line 18 = .ok (.ifCond .eq 8, 3) := by decide +kernel
theorem dd_M_line_21 : decode cc_M_line 21 = .ok (.aload_n 0, 1) := by decide +kernel
theorem dd_M_line_22 : decode cc_M_line 22 = .ok (.invokevirtual 176, 3) := by decide +kernel
theorem dd_M_line_25 : decode cc_M_line 25 = .ok (.ireturn, 1) := by decide +kernel
theorem dd_M_line_26 : decode cc_M_line 26 = .ok (.aload_n 0, 1) := by decide +kernel
theorem dd_M_line_27 : decode cc_M_line 27 = .ok (.getfield 144, 3) := by decide +kernel
theorem dd_M_line_30 : decode cc_M_line 30 = .ok (.ifCond .ge 7, 3) := by decide +kernel
theorem dd_M_line_33 : decode cc_M_line 33 = .ok (.iconst 0, 1) := by decide +kernel
theorem dd_M_line_34 : decode cc_M_line 34 = .ok (.goto 14, 3) := by decide +kernel
theorem dd_M_line_37 : decode cc_M_line 37 = .ok (.aload_n 0, 1) := by decide +kernel
theorem dd_M_line_38 : decode cc_M_line 38 = .ok (.iconst 1, 1) := by decide +kernel
theorem dd_M_line_39 : decode cc_M_line 39 = .ok (.aload_n 0, 1) := by decide +kernel
theorem dd_M_line_40 : decode cc_M_line 40 = .ok (.getfield 144, 3) := by decide +kernel
theorem dd_M_line_43 : decode cc_M_line 43 = .ok (.invokevirtual 81, 3) := by decide +kernel
theorem dd_M_line_46 : decode cc_M_line 46 = .ok (.iconst 1, 1) := by decide +kernel
theorem dd_M_line_47 : decode cc_M_line 47 = .ok (.iadd, 1) := by decide +kernel
theorem dd_M_line_48 : decode cc_M_line 48 = .ok (.istore_n 2, 1) := by decide +kernel
theorem dd_M_line_49 : decode cc_M_line 49 = .ok (.aload_n 0, 1) := by decide +kernel
theorem dd_M_line_50 : decode cc_M_line 50 = .ok (.iload_n 1, 1) := by decide +kernel
theorem dd_M_line_51 : decode cc_M_line 51 = .ok (.iload_n 2, 1) := by decide +kernel
theorem dd_M_line_52 : decode cc_M_line 52 = .ok (.invokevirtual 180, 3) := by decide +kernel
theorem dd_M_line_55 : decode cc_M_line 55 = .ok (.ifCond .ne 29, 3) := by decide +kernel
theorem dd_M_line_58 : decode cc_M_line 58 = .ok (.aload_n 0, 1) := by decide +kernel
theorem dd_M_line_59 : decode cc_M_line 59 = .ok (.iload_n 1, 1) := by decide +kernel
theorem dd_M_line_60 : decode cc_M_line 60 = .ok (.invokevirtual 183, 3) := by decide +kernel
theorem dd_M_line_63 : decode cc_M_line 63 = .ok (.ifCond .ne 21, 3) := by decide +kernel
theorem dd_M_line_66 : decode cc_M_line 66 = .ok (.aload_n 0, 1) := by decide +kernel
theorem dd_M_line_67 : decode cc_M_line 67 = .ok (.iload_n 1, 1) := by decide +kernel
theorem dd_M_line_68 : decode cc_M_line 68 = .ok (.iload_n 2, 1) := by decide +kernel
theorem dd_M_line_69 : decode cc_M_line 69 = .ok (.invokevirtual 186, 3) := by decide +kernel
theorem dd_M_line_72 : decode cc_M_line 72 = .ok (.ifCond .ne 12, 3) := by decide +kernel
theorem dd_M_line_75 : decode cc_M_line 75 = .ok (.aload_n 0, 1) := by decide +kernel
theorem dd_M_line_76 : decode cc_M_line 76 = .ok (.iload_n 1, 1) := by decide +kernel
theorem dd_M_line_77 : decode cc_M_line 77 = .ok (.iload_n 2, 1) := by decide +kernel
theorem dd_M_line_78 : decode cc_M_line 78 = .ok (.invokevirtual 189, 3) := by decide +kernel
theorem dd_M_line_81 : decode cc_M_line 81 = .ok (.ifCond .eq 7, 3) := by decide +kernel
theorem dd_M_line_84 : decode cc_M_line 84 = .ok (.iconst 1, 1) := by decide +kernel
theorem dd_M_line_85 : decode cc_M_line 85 = .ok (.goto 4, 3) := by decide +kernel
theorem dd_M_line_88 : decode cc_M_line 88 = .ok (.iconst 0, 1) := by decide +kernel
theorem dd_M_line_89 : decode cc_M_line 89 = .ok (.ireturn, 1) := by decide +kernel
theorem dd_M_adopt_0 : decode cc_M_adopt 0 = .ok (.aload_n 0, 1) := by decide +kernel
theorem dd_M_adopt_1 : decode cc_M_adopt 1 = .ok (.getfield 13, 3) := by decide +kernel
theorem dd_M_adopt_4 : decode cc_M_adopt 4 = .ok (.iconst 0, 1) := by decide +kernel
theorem dd_M_adopt_5 : decode cc_M_adopt 5 = .ok (.aload_n 0, 1) := by decide +kernel
theorem dd_M_adopt_6 : decode cc_M_adopt 6 = .ok (.getfield 13, 3) := by decide +kernel
theorem dd_M_adopt_9 : decode cc_M_adopt 9 = .ok (.iconst 1, 1) := by decide +kernel
theorem dd_M_adopt_10 : decode cc_M_adopt 10 = .ok (.iaload, 1) := by decide +kernel
theorem dd_M_adopt_11 : decode cc_M_adopt 11 = .ok (.iastore, 1) := by decide +kernel
theorem dd_M_adopt_12 : decode cc_M_adopt 12 = .ok (.iconst 0, 1) := by decide +kernel
theorem dd_M_adopt_13 : decode cc_M_adopt 13 = .ok (.istore_n 1, 1) := by decide +kernel
theorem dd_M_adopt_14 : decode cc_M_adopt 14 = .ok (.iload_n 1, 1) := by decide +kernel
theorem dd_M_adopt_15 : decode cc_M_adopt 15 = .ok (.bipush 24, 2) := by decide +kernel
theorem dd_M_adopt_17 : decode cc_M_adopt 17 = .ok (.if_icmp .ge 69, 3) := by decide +kernel
theorem dd_M_adopt_20 : decode cc_M_adopt 20 = .ok (.aload_n 0, 1) := by decide +kernel
theorem dd_M_adopt_21 : decode cc_M_adopt 21 = .ok (.getfield 17, 3) := by decide +kernel
theorem dd_M_adopt_24 : decode cc_M_adopt 24 = .ok (.iload_n 1, 1) := by decide +kernel
theorem dd_M_adopt_25 : decode cc_M_adopt 25 = .ok (.aload_n 0, 1) := by decide +kernel
theorem dd_M_adopt_26 : decode cc_M_adopt 26 = .ok (.getfield 17, 3) := by decide +kernel
theorem dd_M_adopt_29 : decode cc_M_adopt 29 = .ok (.bipush 24, 2) := by decide +kernel
theorem dd_M_adopt_31 : decode cc_M_adopt 31 = .ok (.iload_n 1, 1) := by decide +kernel
theorem dd_M_adopt_32 : decode cc_M_adopt 32 = .ok (.iadd, 1) := by decide +kernel
theorem dd_M_adopt_33 : decode cc_M_adopt 33 = .ok (.iaload, 1) := by decide +kernel
theorem dd_M_adopt_34 : decode cc_M_adopt 34 = .ok (.iastore, 1) := by decide +kernel
theorem dd_M_adopt_35 : decode cc_M_adopt 35 = .ok (.aload_n 0, 1) := by decide +kernel
theorem dd_M_adopt_36 : decode cc_M_adopt 36 = .ok (.getfield 20, 3) := by decide +kernel
theorem dd_M_adopt_39 : decode cc_M_adopt 39 = .ok (.iload_n 1, 1) := by decide +kernel
theorem dd_M_adopt_40 : decode cc_M_adopt 40 = .ok (.aload_n 0, 1) := by decide +kernel
theorem dd_M_adopt_41 : decode cc_M_adopt 41 = .ok (.getfield 20, 3) := by decide +kernel
theorem dd_M_adopt_44 : decode cc_M_adopt 44 = .ok (.bipush 24, 2) := by decide +kernel
theorem dd_M_adopt_46 : decode cc_M_adopt 46 = .ok (.iload_n 1, 1) := by decide +kernel
theorem dd_M_adopt_47 : decode cc_M_adopt 47 = .ok (.iadd, 1) := by decide +kernel
theorem dd_M_adopt_48 : decode cc_M_adopt 48 = .ok (.iaload, 1) := by decide +kernel
theorem dd_M_adopt_49 : decode cc_M_adopt 49 = .ok (.iastore, 1) := by decide +kernel
theorem dd_M_adopt_50 : decode cc_M_adopt 50 = .ok (.aload_n 0, 1) := by decide +kernel
theorem dd_M_adopt_51 : decode cc_M_adopt 51 = .ok (.getfield 23, 3) := by decide +kernel
theorem dd_M_adopt_54 : decode cc_M_adopt 54 = .ok (.iload_n 1, 1) := by decide +kernel
theorem dd_M_adopt_55 : decode cc_M_adopt 55 = .ok (.aload_n 0, 1) := by decide +kernel
theorem dd_M_adopt_56 : decode cc_M_adopt 56 = .ok (.getfield 23, 3) := by decide +kernel
theorem dd_M_adopt_59 : decode cc_M_adopt 59 = .ok (.bipush 24, 2) := by decide +kernel
theorem dd_M_adopt_61 : decode cc_M_adopt 61 = .ok (.iload_n 1, 1) := by decide +kernel
theorem dd_M_adopt_62 : decode cc_M_adopt 62 = .ok (.iadd, 1) := by decide +kernel
theorem dd_M_adopt_63 : decode cc_M_adopt 63 = .ok (.baload, 1) := by decide +kernel
theorem dd_M_adopt_64 : decode cc_M_adopt 64 = .ok (.bastore, 1) := by decide +kernel
theorem dd_M_adopt_65 : decode cc_M_adopt 65 = .ok (.aload_n 0, 1) := by decide +kernel
theorem dd_M_adopt_66 : decode cc_M_adopt 66 = .ok (.getfield 27, 3) := by decide +kernel
theorem dd_M_adopt_69 : decode cc_M_adopt 69 = .ok (.iload_n 1, 1) := by decide +kernel
theorem dd_M_adopt_70 : decode cc_M_adopt 70 = .ok (.aload_n 0, 1) := by decide +kernel
theorem dd_M_adopt_71 : decode cc_M_adopt 71 = .ok (.getfield 27, 3) := by decide +kernel
theorem dd_M_adopt_74 : decode cc_M_adopt 74 = .ok (.bipush 24, 2) := by decide +kernel
theorem dd_M_adopt_76 : decode cc_M_adopt 76 = .ok (.iload_n 1, 1) := by decide +kernel
theorem dd_M_adopt_77 : decode cc_M_adopt 77 = .ok (.iadd, 1) := by decide +kernel
theorem dd_M_adopt_78 : decode cc_M_adopt 78 = .ok (.iaload, 1) := by decide +kernel
theorem dd_M_adopt_79 : decode cc_M_adopt 79 = .ok (.iastore, 1) := by decide +kernel
theorem dd_M_adopt_80 : decode cc_M_adopt 80 = .ok (.iinc 1 1, 3) := by decide +kernel
theorem dd_M_adopt_83 : decode cc_M_adopt 83 = .ok (.goto (-69), 3) := by decide +kernel
theorem dd_M_adopt_86 : decode cc_M_adopt 86 = .ok (.iconst 0, 1) := by decide +kernel
theorem dd_M_adopt_87 : decode cc_M_adopt 87 = .ok (.istore_n 1, 1) := by decide +kernel
theorem dd_M_adopt_88 : decode cc_M_adopt 88 = .ok (.iload_n 1, 1) := by decide +kernel
theorem dd_M_adopt_89 : decode cc_M_adopt 89 = .ok (.sipush 144, 3) := by decide +kernel
theorem dd_M_adopt_92 : decode cc_M_adopt 92 = .ok (.if_icmp .ge 25, 3) := by decide +kernel
theorem dd_M_adopt_95 : decode cc_M_adopt 95 = .ok (.aload_n 0, 1) := by decide +kernel
theorem dd_M_adopt_96 : decode cc_M_adopt 96 = .ok (.getfield 30, 3) := by decide +kernel
theorem dd_M_adopt_99 : decode cc_M_adopt 99 = .ok (.iload_n 1, 1) := by decide +kernel
theorem dd_M_adopt_100 : decode cc_M_adopt 100 = .ok (.aload_n 0, 1) := by decide +kernel
theorem dd_M_adopt_101 : decode cc_M_adopt 101 = .ok (.getfield 30, 3) := by decide +kernel
theorem dd_M_adopt_104 : decode cc_M_adopt 104 = .ok (.sipush 144, 3) := by decide +kernel
theorem dd_M_adopt_107 : decode cc_M_adopt 107 = .ok (.iload_n 1, 1) := by decide +kernel
theorem dd_M_adopt_108 : decode cc_M_adopt 108 = .ok (.iadd, 1) := by decide +kernel
theorem dd_M_adopt_109 : decode cc_M_adopt 109 = .ok (.caload, 1) := by decide +kernel
theorem dd_M_adopt_110 : decode cc_M_adopt 110 = .ok (.castore, 1) := by decide +kernel
theorem dd_M_adopt_111 : decode cc_M_adopt 111 = .ok (.iinc 1 1, 3) := by decide +kernel
theorem dd_M_adopt_114 : decode cc_M_adopt 114 = .ok (.goto (-26), 3) := by decide +kernel
theorem dd_M_adopt_117 : decode cc_M_adopt 117 = .ok (.return_, 1) := by decide +kernel
theorem dd_M_read_0 : decode cc_M_read 0 = .ok (.aload_n 0, 1) := by decide +kernel
theorem dd_M_read_1 : decode cc_M_read 1 = .ok (.getfield 13, 3) := by decide +kernel
theorem dd_M_read_4 : decode cc_M_read 4 = .ok (.iconst 1, 1) := by decide +kernel
theorem dd_M_read_5 : decode cc_M_read 5 = .ok (.iconst 0, 1) := by decide +kernel
theorem dd_M_read_6 : decode cc_M_read 6 = .ok (.iastore, 1) := by decide +kernel
theorem dd_M_read_7 : decode cc_M_read 7 = .ok (.aload_n 0, 1) := by decide +kernel
theorem dd_M_read_8 : decode cc_M_read 8 = .ok (.iconst (-1), 1) := by decide +kernel
theorem dd_M_read_9 : decode cc_M_read 9 = .ok (.putfield 144, 3) := by decide +kernel
theorem dd_M_read_12 : decode cc_M_read 12 = .ok (.aload_n 0, 1) := by decide +kernel
theorem dd_M_read_13 : decode cc_M_read 13 = .ok (.iconst 0, 1) := by decide +kernel
theorem dd_M_read_14 : decode cc_M_read 14 = .ok (.putfield 162, 3) := by decide +kernel
theorem dd_M_read_17 : decode cc_M_read 17 = .ok (.aload_n 0, 1) := by decide +kernel
theorem dd_M_read_18 : decode cc_M_read 18 = .ok (.iconst 0, 1) := by decide +kernel
theorem dd_M_read_19 : decode cc_M_read 19 = .ok (.putfield 166, 3) := by decide +kernel
theorem dd_M_read_22 : decode cc_M_read 22 = .ok (.iconst 0, 1) := by decide +kernel
theorem dd_M_read_23 : decode cc_M_read 23 = .ok (.istore_n 1, 1) := by decide +kernel
theorem dd_M_read_24 : decode cc_M_read 24 = .ok (.iconst 1, 1) := by decide +kernel
theorem dd_M_read_25 : decode cc_M_read 25 = .ok (.istore_n 2, 1) := by decide +kernel
theorem dd_M_read_26 : decode cc_M_read 26 = .ok (.iconst 1, 1) := by decide +kernel
theorem dd_M_read_27 : decode cc_M_read 27 = .ok (.istore_n 3, 1) := by decide +kernel
theorem dd_M_read_28 : decode cc_M_read 28 = .ok (.iload_n 3, 1) := by decide +kernel
theorem dd_M_read_29 : decode cc_M_read 29 = .ok (.ifCond .eq 128, 3) := by decide +kernel
theorem dd_M_read_32 : decode cc_M_read 32 = .ok (.iload_n 1, 1) := by decide +kernel
theorem dd_M_read_33 : decode cc_M_read 33 = .ok (.aload_n 0, 1) := by decide +kernel
theorem dd_M_read_34 : decode cc_M_read 34 = .ok (.getfield 95, 3) := by decide +kernel
theorem dd_M_read_37 : decode cc_M_read 37 = .ok (.if_icmp .ge 120, 3) := by decide +kernel
theorem dd_M_read_40 : decode cc_M_read 40 = .ok (.aload_n 0, 1) := by decide +kernel
theorem dd_M_read_41 : decode cc_M_read 41 = .ok (.iload_n 1, 1) := by decide +kernel
theorem dd_M_read_42 : decode cc_M_read 42 = .ok (.putfield 135, 3) := by decide +kernel
theorem dd_M_read_45 : decode cc_M_read 45 = .ok (.aload_n 0, 1) := by decide +kernel
theorem dd_M_read_46 : decode cc_M_read 46 = .ok (.getfield 135, 3) := by decide +kernel
theorem dd_M_read_49 : decode cc_M_read 49 = .ok (.aload_n 0, 1) := by decide +kernel
theorem dd_M_read_50 : decode cc_M_read 50 = .ok (.getfield 95, 3) := by decide +kernel
theorem dd_M_read_53 : decode cc_M_read 53 = .ok (.if_icmp .ge 30, 3) := by decide +kernel
theorem dd_M_read_56 : decode cc_M_read 56 = .ok (.aload_n 0, 1) := by decide +kernel
theorem dd_M_read_57 : decode cc_M_read 57 = .ok (.getfield 33, 3) := by decide +kernel
theorem dd_M_read_60 : decode cc_M_read 60 = .ok (.aload_n 0, 1) := by decide +kernel
theorem dd_M_read_61 : decode cc_M_read 61 = .ok (.getfield 135, 3) := by decide +kernel
theorem dd_M_read_64 : decode cc_M_read 64 = .ok (.caload, 1) := by decide +kernel
theorem dd_M_read_65 : decode cc_M_read 65 = .ok (.bipush 10, 2) := by decide +kernel
theorem dd_M_read_67 : decode cc_M_read 67 = .ok (.if_icmp .eq 16, 3) := by decide +kernel
theorem dd_M_read_70 : decode cc_M_read 70 = .ok (.aload_n 0, 1) := by decide +kernel
theorem dd_M_read_71 : decode cc_M_read 71 = .ok (.dup, 1) := by decide +kernel
theorem dd_M_read_72 : decode cc_M_read 72 = .ok (.getfield 135, 3) := by decide +kernel
theorem dd_M_read_75 : decode cc_M_read 75 = .ok (.iconst 1, 1) := by decide +kernel
theorem dd_M_read_76 : decode cc_M_read 76 = .ok (.iadd, 1) := by decide +kernel
theorem dd_M_read_77 : decode cc_M_read 77 = .ok (.putfield 135, 3) := by decide +kernel
theorem dd_M_read_80 : decode cc_M_read 80 = .ok (.goto (-35), 3) := by decide +kernel
theorem dd_M_read_83 : decode cc_M_read 83 = .ok (.aload_n 0, 1) := by decide +kernel
theorem dd_M_read_84 : decode cc_M_read 84 = .ok (.iload_n 1, 1) := by decide +kernel
theorem dd_M_read_85 : decode cc_M_read 85 = .ok (.putfield 132, 3) := by decide +kernel
theorem dd_M_read_88 : decode cc_M_read 88 = .ok (.aload_n 0, 1) := by decide +kernel
theorem dd_M_read_89 : decode cc_M_read 89 = .ok (.getfield 135, 3) := by decide +kernel
theorem dd_M_read_92 : decode cc_M_read 92 = .ok (.aload_n 0, 1) := by decide +kernel
theorem dd_M_read_93 : decode cc_M_read 93 = .ok (.getfield 95, 3) := by decide +kernel
theorem dd_M_read_96 : decode cc_M_read 96 = .ok (.if_icmp .ge 42, 3) := by decide +kernel
theorem dd_M_read_99 : decode cc_M_read 99 = .ok (.iload_n 2, 1) := by decide +kernel
theorem dd_M_read_100 : decode cc_M_read 100 = .ok (.iconst 1, 1) := by decide +kernel
theorem dd_M_read_101 : decode cc_M_read 101 = .ok (.if_icmp .ne 25, 3) := by decide +kernel
theorem dd_M_read_104 : decode cc_M_read 104 = .ok (.aload_n 0, 1) := by decide +kernel
theorem dd_M_read_105 : decode cc_M_read 105 = .ok (.iconst 0, 1) := by decide +kernel
theorem dd_M_read_106 : decode cc_M_read 106 = .ok (.invokevirtual 150, 3) := by decide +kernel
theorem dd_M_read_109 : decode cc_M_read 109 = .ok (.ifCond .eq 29, 3) := by decide +kernel
theorem dd_M_read_112 : decode cc_M_read 112 = .ok (.aload_n 0, 1) := by decide +kernel
theorem dd_M_read_113 : decode cc_M_read 113 = .ok (.getfield 132, 3) := by decide +kernel
theorem dd_M_read_116 : decode cc_M_read 116 = .ok (.aload_n 0, 1) := by decide +kernel
theorem dd_M_read_117 : decode cc_M_read 117 = .ok (.getfield 135, 3) := by decide +kernel
theorem dd_M_read_120 : decode cc_M_read 120 = .ok (.if_icmp .ne 18, 3) := by decide +kernel
theorem dd_M_read_123 : decode cc_M_read 123 = .ok (.goto 11, 3) := by decide +kernel
theorem dd_M_read_126 : decode cc_M_read 126 = .ok (.aload_n 0, 1) := by decide +kernel
theorem dd_M_read_127 : decode cc_M_read 127 = .ok (.iload_n 1, 1) := by decide +kernel
theorem dd_M_read_128 : decode cc_M_read 128 = .ok (.invokevirtual 192, 3) := by decide +kernel
theorem dd_M_read_131 : decode cc_M_read 131 = .ok (.ifCond .eq 7, 3) := by decide +kernel
theorem dd_M_read_134 : decode cc_M_read 134 = .ok (.iconst 1, 1) := by decide +kernel
theorem dd_M_read_135 : decode cc_M_read 135 = .ok (.goto 4, 3) := by decide +kernel
theorem dd_M_read_138 : decode cc_M_read 138 = .ok (.iconst 0, 1) := by decide +kernel
theorem dd_M_read_139 : decode cc_M_read 139 = .ok (.istore_n 3, 1) := by decide +kernel
theorem dd_M_read_140 : decode cc_M_read 140 = .ok (.iload_n 3, 1) := by decide +kernel
theorem dd_M_read_141 : decode cc_M_read 141 = .ok (.ifCond .eq (-113), 3) := by decide +kernel
theorem dd_M_read_144 : decode cc_M_read 144 = .ok (.aload_n 0, 1) := by decide +kernel
theorem dd_M_read_145 : decode cc_M_read 145 = .ok (.getfield 135, 3) := by decide +kernel
theorem dd_M_read_148 : decode cc_M_read 148 = .ok (.iconst 1, 1) := by decide +kernel
theorem dd_M_read_149 : decode cc_M_read 149 = .ok (.iadd, 1) := by decide +kernel
theorem dd_M_read_150 : decode cc_M_read 150 = .ok (.istore_n 1, 1) := by decide +kernel
theorem dd_M_read_151 : decode cc_M_read 151 = .ok (.iinc 2 1, 3) := by decide +kernel
theorem dd_M_read_154 : decode cc_M_read 154 = .ok (.goto (-126), 3) := by decide +kernel
theorem dd_M_read_157 : decode cc_M_read 157 = .ok (.iload_n 3, 1) := by decide +kernel
theorem dd_M_read_158 : decode cc_M_read 158 = .ok (.ifCond .eq 10, 3) := by decide +kernel
theorem dd_M_read_161 : decode cc_M_read 161 = .ok (.aload_n 0, 1) := by decide +kernel
theorem dd_M_read_162 : decode cc_M_read 162 = .ok (.getfield 166, 3) := by decide +kernel
theorem dd_M_read_165 : decode cc_M_read 165 = .ok (.ifCond .ne 6, 3) := by decide +kernel
theorem dd_M_read_168 : decode cc_M_read 168 = .ok (.iload_n 2, 1) := by decide +kernel
theorem dd_M_read_169 : decode cc_M_read 169 = .ok (.ineg, 1) := by decide +kernel
theorem dd_M_read_170 : decode cc_M_read 170 = .ok (.ireturn, 1) := by decide +kernel
theorem dd_M_read_171 : decode cc_M_read 171 = .ok (.aload_n 0, 1) := by decide +kernel
theorem dd_M_read_172 : decode cc_M_read 172 = .ok (.invokevirtual 195, 3) := by decide +kernel
theorem dd_M_read_175 : decode cc_M_read 175 = .ok (.iconst 0, 1) := by decide +kernel
theorem dd_M_read_176 : decode cc_M_read 176 = .ok (.ireturn, 1) := by decide +kernel
theorem dd_M_length_0 : decode cc_M_length 0 = .ok (.aload_n 0, 1) := by decide +kernel
theorem dd_M_length_1 : decode cc_M_length 1 = .ok (.getfield 95, 3) := by decide +kernel
theorem dd_M_length_4 : decode cc_M_length 4 = .ok (.ireturn, 1) := by decide +kernel
theorem dd_M_at_0 : decode cc_M_at 0 = .ok (.iload_n 1, 1) := by decide +kernel
theorem dd_M_at_1 : decode cc_M_at 1 = .ok (.ifCond .lt 20, 3) := by decide +kernel
theorem dd_M_at_4 : decode cc_M_at 4 = .ok (.iload_n 1, 1) := by decide +kernel
theorem dd_M_at_5 : decode cc_M_at 5 = .ok (.aload_n 0, 1) := by decide +kernel
theorem dd_M_at_6 : decode cc_M_at 6 = .ok (.getfield 95, 3) := by decide +kernel
theorem dd_M_at_9 : decode cc_M_at 9 = .ok (.if_icmp .ge 12, 3) := by decide +kernel
theorem dd_M_at_12 : decode cc_M_at 12 = .ok (.aload_n 0, 1) := by decide +kernel
theorem dd_M_at_13 : decode cc_M_at 13 = .ok (.getfield 33, 3) := by decide +kernel
theorem dd_M_at_16 : decode cc_M_at 16 = .ok (.iload_n 1, 1) := by decide +kernel
theorem dd_M_at_17 : decode cc_M_at 17 = .ok (.caload, 1) := by decide +kernel
theorem dd_M_at_18 : decode cc_M_at 18 = .ok (.goto 4, 3) := by decide +kernel
theorem dd_M_at_21 : decode cc_M_at 21 = .ok (.iconst (-1), 1) := by decide +kernel
theorem dd_M_at_22 : decode cc_M_at 22 = .ok (.ireturn, 1) := by decide +kernel
theorem dd_M_fits_0 : decode cc_M_fits 0 = .ok (.iload_n 0, 1) := by decide +kernel
theorem dd_M_fits_1 : decode cc_M_fits 1 = .ok (.bipush 10, 2) := by decide +kernel
theorem dd_M_fits_3 : decode cc_M_fits 3 = .ok (.if_icmp .eq 15, 3) := by decide +kernel
theorem dd_M_fits_6 : decode cc_M_fits 6 = .ok (.iload_n 0, 1) := by decide +kernel
theorem dd_M_fits_7 : decode cc_M_fits 7 = .ok (.bipush 32, 2) := by decide +kernel
theorem dd_M_fits_9 : decode cc_M_fits 9 = .ok (.if_icmp .lt 13, 3) := by decide +kernel
theorem dd_M_fits_12 : decode cc_M_fits 12 = .ok (.iload_n 0, 1) := by decide +kernel
theorem dd_M_fits_13 : decode cc_M_fits 13 = .ok (.bipush 126, 2) := by decide +kernel
theorem dd_M_fits_15 : decode cc_M_fits 15 = .ok (.if_icmp .gt 7, 3) := by decide +kernel
theorem dd_M_fits_18 : decode cc_M_fits 18 = .ok (.iconst 1, 1) := by decide +kernel
theorem dd_M_fits_19 : decode cc_M_fits 19 = .ok (.goto 4, 3) := by decide +kernel
theorem dd_M_fits_22 : decode cc_M_fits 22 = .ok (.iconst 0, 1) := by decide +kernel
theorem dd_M_fits_23 : decode cc_M_fits 23 = .ok (.ireturn, 1) := by decide +kernel
theorem dd_M_put_0 : decode cc_M_put 0 = .ok (.iload_n 1, 1) := by decide +kernel
theorem dd_M_put_1 : decode cc_M_put 1 = .ok (.invokestatic 198, 3) := by decide +kernel
theorem dd_M_put_4 : decode cc_M_put 4 = .ok (.ifCond .eq 13, 3) := by decide +kernel
theorem dd_M_put_7 : decode cc_M_put 7 = .ok (.aload_n 0, 1) := by decide +kernel
theorem dd_M_put_8 : decode cc_M_put 8 = .ok (.getfield 95, 3) := by decide +kernel
theorem dd_M_put_11 : decode cc_M_put 11 = .ok (.sipush 3000, 3) := by decide +kernel
theorem dd_M_put_14 : decode cc_M_put 14 = .ok (.if_icmp .ne 5, 3) := by decide +kernel
theorem dd_M_put_17 : decode cc_M_put 17 = .ok (.iconst 0, 1) := by decide +kernel
theorem dd_M_put_18 : decode cc_M_put 18 = .ok (.ireturn, 1) := by decide +kernel
theorem dd_M_put_19 : decode cc_M_put 19 = .ok (.aload_n 0, 1) := by decide +kernel
theorem dd_M_put_20 : decode cc_M_put 20 = .ok (.getfield 33, 3) := by decide +kernel
theorem dd_M_put_23 : decode cc_M_put 23 = .ok (.aload_n 0, 1) := by decide +kernel
theorem dd_M_put_24 : decode cc_M_put 24 = .ok (.getfield 95, 3) := by decide +kernel
theorem dd_M_put_27 : decode cc_M_put 27 = .ok (.iload_n 1, 1) := by decide +kernel
theorem dd_M_put_28 : decode cc_M_put 28 = .ok (.castore, 1) := by decide +kernel
theorem dd_M_put_29 : decode cc_M_put 29 = .ok (.aload_n 0, 1) := by decide +kernel
theorem dd_M_put_30 : decode cc_M_put 30 = .ok (.dup, 1) := by decide +kernel
theorem dd_M_put_31 : decode cc_M_put 31 = .ok (.getfield 95, 3) := by decide +kernel
theorem dd_M_put_34 : decode cc_M_put 34 = .ok (.iconst 1, 1) := by decide +kernel
theorem dd_M_put_35 : decode cc_M_put 35 = .ok (.iadd, 1) := by decide +kernel
theorem dd_M_put_36 : decode cc_M_put 36 = .ok (.putfield 95, 3) := by decide +kernel
theorem dd_M_put_39 : decode cc_M_put 39 = .ok (.iconst 1, 1) := by decide +kernel
theorem dd_M_put_40 : decode cc_M_put 40 = .ok (.ireturn, 1) := by decide +kernel
theorem dd_M_poke_0 : decode cc_M_poke 0 = .ok (.iload_n 1, 1) := by decide +kernel
theorem dd_M_poke_1 : decode cc_M_poke 1 = .ok (.ifCond .lt 18, 3) := by decide +kernel
theorem dd_M_poke_4 : decode cc_M_poke 4 = .ok (.iload_n 1, 1) := by decide +kernel
theorem dd_M_poke_5 : decode cc_M_poke 5 = .ok (.aload_n 0, 1) := by decide +kernel
theorem dd_M_poke_6 : decode cc_M_poke 6 = .ok (.getfield 95, 3) := by decide +kernel
theorem dd_M_poke_9 : decode cc_M_poke 9 = .ok (.if_icmp .ge 10, 3) := by decide +kernel
theorem dd_M_poke_12 : decode cc_M_poke 12 = .ok (.iload_n 2, 1) := by decide +kernel
theorem dd_M_poke_13 : decode cc_M_poke 13 = .ok (.invokestatic 198, 3) := by decide +kernel
theorem dd_M_poke_16 : decode cc_M_poke 16 = .ok (.ifCond .ne 5, 3) := by decide +kernel
theorem dd_M_poke_19 : decode cc_M_poke 19 = .ok (.iconst 0, 1) := by decide +kernel
theorem dd_M_poke_20 : decode cc_M_poke 20 = .ok (.ireturn, 1) := by decide +kernel
theorem dd_M_poke_21 : decode cc_M_poke 21 = .ok (.aload_n 0, 1) := by decide +kernel
theorem dd_M_poke_22 : decode cc_M_poke 22 = .ok (.getfield 33, 3) := by decide +kernel
theorem dd_M_poke_25 : decode cc_M_poke 25 = .ok (.iload_n 1, 1) := by decide +kernel
theorem dd_M_poke_26 : decode cc_M_poke 26 = .ok (.iload_n 2, 1) := by decide +kernel
theorem dd_M_poke_27 : decode cc_M_poke 27 = .ok (.castore, 1) := by decide +kernel
theorem dd_M_poke_28 : decode cc_M_poke 28 = .ok (.iconst 1, 1) := by decide +kernel
theorem dd_M_poke_29 : decode cc_M_poke 29 = .ok (.ireturn, 1) := by decide +kernel
theorem dd_M_cut_0 : decode cc_M_cut 0 = .ok (.iload_n 1, 1) := by decide +kernel
theorem dd_M_cut_1 : decode cc_M_cut 1 = .ok (.ifCond .lt 11, 3) := by decide +kernel
theorem dd_M_cut_4 : decode cc_M_cut 4 = .ok (.iload_n 1, 1) := by decide +kernel
theorem dd_M_cut_5 : decode cc_M_cut 5 = .ok (.aload_n 0, 1) := by decide +kernel
theorem dd_M_cut_6 : decode cc_M_cut 6 = .ok (.getfield 95, 3) := by decide +kernel
theorem dd_M_cut_9 : decode cc_M_cut 9 = .ok (.if_icmp .le 5, 3) := by decide +kernel
theorem dd_M_cut_12 : decode cc_M_cut 12 = .ok (.iconst 0, 1) := by decide +kernel
theorem dd_M_cut_13 : decode cc_M_cut 13 = .ok (.ireturn, 1) := by decide +kernel
theorem dd_M_cut_14 : decode cc_M_cut 14 = .ok (.aload_n 0, 1) := by decide +kernel
theorem dd_M_cut_15 : decode cc_M_cut 15 = .ok (.iload_n 1, 1) := by decide +kernel
theorem dd_M_cut_16 : decode cc_M_cut 16 = .ok (.putfield 95, 3) := by decide +kernel
theorem dd_M_cut_19 : decode cc_M_cut 19 = .ok (.iconst 1, 1) := by decide +kernel
theorem dd_M_cut_20 : decode cc_M_cut 20 = .ok (.ireturn, 1) := by decide +kernel
theorem dd_M_sameName_0 : decode cc_M_sameName 0 = .ok (.aload_n 0, 1) := by decide +kernel
theorem dd_M_sameName_1 : decode cc_M_sameName 1 = .ok (.getfield 27, 3) := by decide +kernel
theorem dd_M_sameName_4 : decode cc_M_sameName 4 = .ok (.iload_n 1, 1) := by decide +kernel
theorem dd_M_sameName_5 : decode cc_M_sameName 5 = .ok (.iaload, 1) := by decide +kernel
theorem dd_M_sameName_6 : decode cc_M_sameName 6 = .ok (.aload_n 0, 1) := by decide +kernel
theorem dd_M_sameName_7 : decode cc_M_sameName 7 = .ok (.getfield 27, 3) := by decide +kernel
theorem dd_M_sameName_10 : decode cc_M_sameName 10 = .ok (.iload_n 2, 1) := by decide +kernel
theorem dd_M_sameName_11 : decode cc_M_sameName 11 = .ok (.iaload, 1) := by decide +kernel
theorem dd_M_sameName_12 : decode cc_M_sameName 12 = .ok (.if_icmp .ne 7, 3) := by decide +kernel
theorem dd_M_sameName_15 : decode cc_M_sameName 15 = .ok (.iconst 1, 1) := by decide +kernel
theorem dd_M_sameName_16 : decode cc_M_sameName 16 = .ok (.goto 4, 3) := by decide +kernel
theorem dd_M_sameName_19 : decode cc_M_sameName 19 = .ok (.iconst 0, 1) := by decide +kernel
theorem dd_M_sameName_20 : decode cc_M_sameName 20 = .ok (.istore_n 3, 1) := by decide +kernel
theorem dd_M_sameName_21 : decode cc_M_sameName 21 = .ok (.iconst 0, 1) := by decide +kernel
theorem dd_M_sameName_22 : decode cc_M_sameName 22 = .ok (.istore 4, 2) := by decide +kernel
theorem dd_M_sameName_24 : decode cc_M_sameName 24 = .ok (.iload 4, 2) := by decide +kernel
theorem dd_M_sameName_26 : decode cc_M_sameName 26 = .ok (.aload_n 0, 1) := by decide +kernel
theorem dd_M_sameName_27 : decode cc_M_sameName 27 = .ok (.getfield 27, 3) := by decide +kernel
theorem dd_M_sameName_30 : decode cc_M_sameName 30 = .ok (.iload_n 1, 1) := by decide +kernel
theorem dd_M_sameName_31 : decode cc_M_sameName 31 = .ok (.iaload, 1) := by decide +kernel
theorem dd_M_sameName_32 : decode cc_M_sameName 32 = .ok (.if_icmp .ge 46, 3) := by decide +kernel
theorem dd_M_sameName_35 : decode cc_M_sameName 35 = .ok (.iload_n 3, 1) := by decide +kernel
theorem dd_M_sameName_36 : decode cc_M_sameName 36 = .ok (.ifCond .eq 42, 3) := by decide +kernel
theorem dd_M_sameName_39 : decode cc_M_sameName 39 = .ok (.aload_n 0, 1) := by decide +kernel
theorem dd_M_sameName_40 : decode cc_M_sameName 40 = .ok (.getfield 30, 3) := by decide +kernel
theorem dd_M_sameName_43 : decode cc_M_sameName 43 = .ok (.bipush 6, 2) := by decide +kernel
theorem dd_M_sameName_45 : decode cc_M_sameName 45 = .ok (.iload_n 1, 1) := by decide +kernel
theorem dd_M_sameName_46 : decode cc_M_sameName 46 = .ok (.imul, 1) := by decide +kernel
theorem dd_M_sameName_47 : decode cc_M_sameName 47 = .ok (.iload 4, 2) := by decide +kernel
theorem dd_M_sameName_49 : decode cc_M_sameName 49 = .ok (.iadd, 1) := by decide +kernel
theorem dd_M_sameName_50 : decode cc_M_sameName 50 = .ok (.caload, 1) := by decide +kernel
theorem dd_M_sameName_51 : decode cc_M_sameName 51 = .ok (.aload_n 0, 1) := by decide +kernel
theorem dd_M_sameName_52 : decode cc_M_sameName 52 = .ok (.getfield 30, 3) := by decide +kernel
theorem dd_M_sameName_55 : decode cc_M_sameName 55 = .ok (.bipush 6, 2) := by decide +kernel
theorem dd_M_sameName_57 : decode cc_M_sameName 57 = .ok (.iload_n 2, 1) := by decide +kernel
theorem dd_M_sameName_58 : decode cc_M_sameName 58 = .ok (.imul, 1) := by decide +kernel
theorem dd_M_sameName_59 : decode cc_M_sameName 59 = .ok (.iload 4, 2) := by decide +kernel
theorem dd_M_sameName_61 : decode cc_M_sameName 61 = .ok (.iadd, 1) := by decide +kernel
theorem dd_M_sameName_62 : decode cc_M_sameName 62 = .ok (.caload, 1) := by decide +kernel
theorem dd_M_sameName_63 : decode cc_M_sameName 63 = .ok (.if_icmp .ne 7, 3) := by decide +kernel
theorem dd_M_sameName_66 : decode cc_M_sameName 66 = .ok (.iconst 1, 1) := by decide +kernel
theorem dd_M_sameName_67 : decode cc_M_sameName 67 = .ok (.goto 4, 3) := by decide +kernel
theorem dd_M_sameName_70 : decode cc_M_sameName 70 = .ok (.iconst 0, 1) := by decide +kernel
theorem dd_M_sameName_71 : decode cc_M_sameName 71 = .ok (.istore_n 3, 1) := by decide +kernel
theorem dd_M_sameName_72 : decode cc_M_sameName 72 = .ok (.iinc 4 1, 3) := by decide +kernel
theorem dd_M_sameName_75 : decode cc_M_sameName 75 = .ok (.goto (-51), 3) := by decide +kernel
theorem dd_M_sameName_78 : decode cc_M_sameName 78 = .ok (.iload_n 3, 1) := by decide +kernel
theorem dd_M_sameName_79 : decode cc_M_sameName 79 = .ok (.ireturn, 1) := by decide +kernel
theorem dd_M_alike_0 : decode cc_M_alike 0 = .ok (.aload_n 0, 1) := by decide +kernel
theorem dd_M_alike_1 : decode cc_M_alike 1 = .ok (.getfield 20, 3) := by decide +kernel
theorem dd_M_alike_4 : decode cc_M_alike 4 = .ok (.iload_n 1, 1) := by decide +kernel
theorem dd_M_alike_5 : decode cc_M_alike 5 = .ok (.iaload, 1) := by decide +kernel
theorem dd_M_alike_6 : decode cc_M_alike 6 = .ok (.iconst 4, 1) := by decide +kernel
theorem dd_M_alike_7 : decode cc_M_alike 7 = .ok (.if_icmp .ge 17, 3) := by decide +kernel
theorem dd_M_alike_10 : decode cc_M_alike 10 = .ok (.aload_n 0, 1) := by decide +kernel
theorem dd_M_alike_11 : decode cc_M_alike 11 = .ok (.getfield 20, 3) := by decide +kernel
theorem dd_M_alike_14 : decode cc_M_alike 14 = .ok (.iload_n 2, 1) := by decide +kernel
theorem dd_M_alike_15 : decode cc_M_alike 15 = .ok (.iaload, 1) := by decide +kernel
theorem dd_M_alike_16 : decode cc_M_alike 16 = .ok (.iconst 4, 1) := by decide +kernel
theorem dd_M_alike_17 : decode cc_M_alike 17 = .ok (.if_icmp .ge 7, 3) := by decide +kernel
theorem dd_M_alike_20 : decode cc_M_alike 20 = .ok (.iconst 1, 1) := by decide +kernel
theorem dd_M_alike_21 : decode cc_M_alike 21 = .ok (.goto 4, 3) := by decide +kernel
theorem dd_M_alike_24 : decode cc_M_alike 24 = .ok (.iconst 0, 1) := by decide +kernel
theorem dd_M_alike_25 : decode cc_M_alike 25 = .ok (.istore_n 3, 1) := by decide +kernel
theorem dd_M_alike_26 : decode cc_M_alike 26 = .ok (.iload_n 1, 1) := by decide +kernel
theorem dd_M_alike_27 : decode cc_M_alike 27 = .ok (.istore 4, 2) := by decide +kernel
theorem dd_M_alike_29 : decode cc_M_alike 29 = .ok (.iload_n 2, 1) := by decide +kernel
theorem dd_M_alike_30 : decode cc_M_alike 30 = .ok (.istore 5, 2) := by decide +kernel
theorem dd_M_alike_32 : decode cc_M_alike 32 = .ok (.iload 4, 2) := by decide +kernel
theorem dd_M_alike_34 : decode cc_M_alike 34 = .ok (.ifCond .lt 50, 3) := by decide +kernel
theorem dd_M_alike_37 : decode cc_M_alike 37 = .ok (.iload 5, 2) := by decide +kernel
theorem dd_M_alike_39 : decode cc_M_alike 39 = .ok (.ifCond .lt 45, 3) := by decide +kernel
theorem dd_M_alike_42 : decode cc_M_alike 42 = .ok (.iload_n 3, 1) := by decide +kernel
theorem dd_M_alike_43 : decode cc_M_alike 43 = .ok (.ifCond .eq 18, 3) := by decide +kernel
theorem dd_M_alike_46 : decode cc_M_alike 46 = .ok (.aload_n 0, 1) := by decide +kernel
theorem dd_M_alike_47 : decode cc_M_alike 47 = .ok (.iload 4, 2) := by decide +kernel
theorem dd_M_alike_49 : decode cc_M_alike 49 = .ok (.iload 5, 2) := by decide +kernel
theorem dd_M_alike_51 : decode cc_M_alike 51 = .ok (.invokevirtual 202, 3) := by decide +kernel
theorem dd_M_alike_54 : decode cc_M_alike 54 = .ok (.ifCond .eq 7, 3) := by decide +kernel
theorem dd_M_alike_57 : decode cc_M_alike 57 = .ok (.iconst 1, 1) := by decide +kernel
theorem dd_M_alike_58 : decode cc_M_alike 58 = .ok (.goto 4, 3) := by decide +kernel
theorem dd_M_alike_61 : decode cc_M_alike 61 = .ok (.iconst 0, 1) := by decide +kernel
theorem dd_M_alike_62 : decode cc_M_alike 62 = .ok (.istore_n 3, 1) := by decide +kernel
theorem dd_M_alike_63 : decode cc_M_alike 63 = .ok (.aload_n 0, 1) := by decide +kernel
theorem dd_M_alike_64 : decode cc_M_alike 64 = .ok (.getfield 17, 3) := by decide +kernel
theorem dd_M_alike_67 : decode cc_M_alike 67 = .ok (.iload 4, 2) := by decide +kernel
theorem dd_M_alike_69 : decode cc_M_alike 69 = .ok (.iaload, 1) := by decide +kernel
theorem dd_M_alike_70 : decode cc_M_alike 70 = .ok (.istore 4, 2) := by decide +kernel
theorem dd_M_alike_72 : decode cc_M_alike 72 = .ok (.aload_n 0, 1) := by decide +kernel
theorem dd_M_alike_73 : decode cc_M_alike 73 = .ok (.getfield 17, 3) := by decide +kernel
theorem dd_M_alike_76 : decode cc_M_alike 76 = .ok (.iload 5, 2) := by decide +kernel
theorem dd_M_alike_78 : decode cc_M_alike 78 = .ok (.iaload, 1) := by decide +kernel
theorem dd_M_alike_79 : decode cc_M_alike 79 = .ok (.istore 5, 2) := by decide +kernel
theorem dd_M_alike_81 : decode cc_M_alike 81 = .ok (.goto (-49), 3) := by decide +kernel
theorem dd_M_alike_84 : decode cc_M_alike 84 = .ok (.iload_n 3, 1) := by decide +kernel
theorem dd_M_alike_85 : decode cc_M_alike 85 = .ok (.ifCond .eq 17, 3) := by decide +kernel
theorem dd_M_alike_88 : decode cc_M_alike 88 = .ok (.iload 4, 2) := by decide +kernel
theorem dd_M_alike_90 : decode cc_M_alike 90 = .ok (.ifCond .ge 12, 3) := by decide +kernel
theorem dd_M_alike_93 : decode cc_M_alike 93 = .ok (.iload 5, 2) := by decide +kernel
theorem dd_M_alike_95 : decode cc_M_alike 95 = .ok (.ifCond .ge 7, 3) := by decide +kernel
theorem dd_M_alike_98 : decode cc_M_alike 98 = .ok (.iconst 1, 1) := by decide +kernel
theorem dd_M_alike_99 : decode cc_M_alike 99 = .ok (.goto 4, 3) := by decide +kernel
theorem dd_M_alike_102 : decode cc_M_alike 102 = .ok (.iconst 0, 1) := by decide +kernel
theorem dd_M_alike_103 : decode cc_M_alike 103 = .ok (.ireturn, 1) := by decide +kernel
theorem dd_M_attempts_0 : decode cc_M_attempts 0 = .ok (.aload_n 0, 1) := by decide +kernel
theorem dd_M_attempts_1 : decode cc_M_attempts 1 = .ok (.iload_n 1, 1) := by decide +kernel
theorem dd_M_attempts_2 : decode cc_M_attempts 2 = .ok (.invokevirtual 87, 3) := by decide +kernel
theorem dd_M_attempts_5 : decode cc_M_attempts 5 = .ok (.ifCond .eq 13, 3) := by decide +kernel
theorem dd_M_attempts_8 : decode cc_M_attempts 8 = .ok (.aload_n 0, 1) := by decide +kernel
theorem dd_M_attempts_9 : decode cc_M_attempts 9 = .ok (.getfield 20, 3) := by decide +kernel
theorem dd_M_attempts_12 : decode cc_M_attempts 12 = .ok (.iload_n 1, 1) := by decide +kernel
theorem dd_M_attempts_13 : decode cc_M_attempts 13 = .ok (.iaload, 1) := by decide +kernel
theorem dd_M_attempts_14 : decode cc_M_attempts 14 = .ok (.iconst 4, 1) := by decide +kernel
theorem dd_M_attempts_15 : decode cc_M_attempts 15 = .ok (.if_icmp .ne 5, 3) := by decide +kernel
theorem dd_M_attempts_18 : decode cc_M_attempts 18 = .ok (.iconst (-1), 1) := by decide +kernel
theorem dd_M_attempts_19 : decode cc_M_attempts 19 = .ok (.ireturn, 1) := by decide +kernel
theorem dd_M_attempts_20 : decode cc_M_attempts 20 = .ok (.iconst 0, 1) := by decide +kernel
theorem dd_M_attempts_21 : decode cc_M_attempts 21 = .ok (.istore_n 2, 1) := by decide +kernel
theorem dd_M_attempts_22 : decode cc_M_attempts 22 = .ok (.iconst 0, 1) := by decide +kernel
theorem dd_M_attempts_23 : decode cc_M_attempts 23 = .ok (.istore_n 3, 1) := by decide +kernel
theorem dd_M_attempts_24 : decode cc_M_attempts 24 = .ok (.iload_n 3, 1) := by decide +kernel
theorem dd_M_attempts_25 : decode cc_M_attempts 25 = .ok (.aload_n 0, 1) := by decide +kernel
theorem dd_M_attempts_26 : decode cc_M_attempts 26 = .ok (.getfield 13, 3) := by decide +kernel
theorem dd_M_attempts_29 : decode cc_M_attempts 29 = .ok (.iconst 0, 1) := by decide +kernel
theorem dd_M_attempts_30 : decode cc_M_attempts 30 = .ok (.iaload, 1) := by decide +kernel
theorem dd_M_attempts_31 : decode cc_M_attempts 31 = .ok (.if_icmp .ge 26, 3) := by decide +kernel
theorem dd_M_attempts_34 : decode cc_M_attempts 34 = .ok (.iload_n 2, 1) := by decide +kernel
theorem dd_M_attempts_35 : decode cc_M_attempts 35 = .ok (.aload_n 0, 1) := by decide +kernel
theorem dd_M_attempts_36 : decode cc_M_attempts 36 = .ok (.iload_n 3, 1) := by decide +kernel
theorem dd_M_attempts_37 : decode cc_M_attempts 37 = .ok (.iload_n 1, 1) := by decide +kernel
theorem dd_M_attempts_38 : decode cc_M_attempts 38 = .ok (.invokevirtual 205, 3) := by decide +kernel
theorem dd_M_attempts_41 : decode cc_M_attempts 41 = .ok (.ifCond .eq 7, 3) := by decide +kernel
theorem dd_M_attempts_44 : decode cc_M_attempts 44 = .ok (.iconst 1, 1) := by decide +kernel
theorem dd_M_attempts_45 : decode cc_M_attempts 45 = .ok (.goto 4, 3) := by decide +kernel
theorem dd_M_attempts_48 : decode cc_M_attempts 48 = .ok (.iconst 0, 1) := by decide +kernel
theorem dd_M_attempts_49 : decode cc_M_attempts 49 = .ok (.iadd, 1) := by decide +kernel
theorem dd_M_attempts_50 : decode cc_M_attempts 50 = .ok (.istore_n 2, 1) := by decide +kernel
theorem dd_M_attempts_51 : decode cc_M_attempts 51 = .ok (.iinc 3 1, 3) := by decide +kernel
theorem dd_M_attempts_54 : decode cc_M_attempts 54 = .ok (.goto (-30), 3) := by decide +kernel
theorem dd_M_attempts_57 : decode cc_M_attempts 57 = .ok (.iload_n 2, 1) := by decide +kernel
theorem dd_M_attempts_58 : decode cc_M_attempts 58 = .ok (.ireturn, 1) := by decide +kernel
theorem dd_M_flaky_0 : decode cc_M_flaky 0 = .ok (.aload_n 0, 1) := by decide +kernel
theorem dd_M_flaky_1 : decode cc_M_flaky 1 = .ok (.iload_n 1, 1) := by decide +kernel
theorem dd_M_flaky_2 : decode cc_M_flaky 2 = .ok (.invokevirtual 87, 3) := by decide +kernel
theorem dd_M_flaky_5 : decode cc_M_flaky 5 = .ok (.ifCond .eq 13, 3) := by decide +kernel
theorem dd_M_flaky_8 : decode cc_M_flaky 8 = .ok (.aload_n 0, 1) := by decide +kernel
theorem dd_M_flaky_9 : decode cc_M_flaky 9 = .ok (.getfield 20, 3) := by decide +kernel
theorem dd_M_flaky_12 : decode cc_M_flaky 12 = .ok (.iload_n 1, 1) := by decide +kernel
theorem dd_M_flaky_13 : decode cc_M_flaky 13 = .ok (.iaload, 1) := by decide +kernel
theorem dd_M_flaky_14 : decode cc_M_flaky 14 = .ok (.iconst 4, 1) := by decide +kernel
theorem dd_M_flaky_15 : decode cc_M_flaky 15 = .ok (.if_icmp .ne 5, 3) := by decide +kernel
theorem dd_M_flaky_18 : decode cc_M_flaky 18 = .ok (.iconst 0, 1) := by decide +kernel
theorem dd_M_flaky_19 : decode cc_M_flaky 19 = .ok (.ireturn, 1) := by decide +kernel
theorem dd_M_flaky_20 : decode cc_M_flaky 20 = .ok (.iconst 0, 1) := by decide +kernel
theorem dd_M_flaky_21 : decode cc_M_flaky 21 = .ok (.istore_n 2, 1) := by decide +kernel
theorem dd_M_flaky_22 : decode cc_M_flaky 22 = .ok (.iconst 0, 1) := by decide +kernel
theorem dd_M_flaky_23 : decode cc_M_flaky 23 = .ok (.istore_n 3, 1) := by decide +kernel
theorem dd_M_flaky_24 : decode cc_M_flaky 24 = .ok (.iconst 0, 1) := by decide +kernel
theorem dd_M_flaky_25 : decode cc_M_flaky 25 = .ok (.istore 4, 2) := by decide +kernel
theorem dd_M_flaky_27 : decode cc_M_flaky 27 = .ok (.iload 4, 2) := by decide +kernel
theorem dd_M_flaky_29 : decode cc_M_flaky 29 = .ok (.aload_n 0, 1) := by decide +kernel
theorem dd_M_flaky_30 : decode cc_M_flaky 30 = .ok (.getfield 13, 3) := by decide +kernel
theorem dd_M_flaky_33 : decode cc_M_flaky 33 = .ok (.iconst 0, 1) := by decide +kernel
theorem dd_M_flaky_34 : decode cc_M_flaky 34 = .ok (.iaload, 1) := by decide +kernel
theorem dd_M_flaky_35 : decode cc_M_flaky 35 = .ok (.if_icmp .ge 73, 3) := by decide +kernel
theorem dd_M_flaky_38 : decode cc_M_flaky 38 = .ok (.aload_n 0, 1) := by decide +kernel
theorem dd_M_flaky_39 : decode cc_M_flaky 39 = .ok (.iload 4, 2) := by decide +kernel
theorem dd_M_flaky_41 : decode cc_M_flaky 41 = .ok (.iload_n 1, 1) := by decide +kernel
theorem dd_M_flaky_42 : decode cc_M_flaky 42 = .ok (.invokevirtual 205, 3) := by decide +kernel
theorem dd_M_flaky_45 : decode cc_M_flaky 45 = .ok (.istore 5, 2) := by decide +kernel
theorem dd_M_flaky_47 : decode cc_M_flaky 47 = .ok (.iload_n 3, 1) := by decide +kernel
theorem dd_M_flaky_48 : decode cc_M_flaky 48 = .ok (.ifCond .ne 22, 3) := by decide +kernel
theorem dd_M_flaky_51 : decode cc_M_flaky 51 = .ok (.iload 5, 2) := by decide +kernel
theorem dd_M_flaky_53 : decode cc_M_flaky 53 = .ok (.ifCond .eq 21, 3) := by decide +kernel
theorem dd_M_flaky_56 : decode cc_M_flaky 56 = .ok (.iload_n 2, 1) := by decide +kernel
theorem dd_M_flaky_57 : decode cc_M_flaky 57 = .ok (.ifCond .eq 17, 3) := by decide +kernel
theorem dd_M_flaky_60 : decode cc_M_flaky 60 = .ok (.aload_n 0, 1) := by decide +kernel
theorem dd_M_flaky_61 : decode cc_M_flaky 61 = .ok (.getfield 20, 3) := by decide +kernel
theorem dd_M_flaky_64 : decode cc_M_flaky 64 = .ok (.iload 4, 2) := by decide +kernel
theorem dd_M_flaky_66 : decode cc_M_flaky 66 = .ok (.iaload, 1) := by decide +kernel
theorem dd_M_flaky_67 : decode cc_M_flaky 67 = .ok (.ifCond .ne 7, 3) := by decide +kernel
theorem dd_M_flaky_70 : decode cc_M_flaky 70 = .ok (.iconst 1, 1) := by decide +kernel
theorem dd_M_flaky_71 : decode cc_M_flaky 71 = .ok (.goto 4, 3) := by decide +kernel
theorem dd_M_flaky_74 : decode cc_M_flaky 74 = .ok (.iconst 0, 1) := by decide +kernel
theorem dd_M_flaky_75 : decode cc_M_flaky 75 = .ok (.istore_n 3, 1) := by decide +kernel
theorem dd_M_flaky_76 : decode cc_M_flaky 76 = .ok (.iload_n 2, 1) := by decide +kernel
theorem dd_M_flaky_77 : decode cc_M_flaky 77 = .ok (.ifCond .ne 19, 3) := by decide +kernel
theorem dd_M_flaky_80 : decode cc_M_flaky 80 = .ok (.iload 5, 2) := by decide +kernel
theorem dd_M_flaky_82 : decode cc_M_flaky 82 = .ok (.ifCond .eq 18, 3) := by decide +kernel
theorem dd_M_flaky_85 : decode cc_M_flaky 85 = .ok (.aload_n 0, 1) := by decide +kernel
theorem dd_M_flaky_86 : decode cc_M_flaky 86 = .ok (.getfield 20, 3) := by decide +kernel
theorem dd_M_flaky_89 : decode cc_M_flaky 89 = .ok (.iload 4, 2) := by decide +kernel
theorem dd_M_flaky_91 : decode cc_M_flaky 91 = .ok (.iaload, 1) := by decide +kernel
theorem dd_M_flaky_92 : decode cc_M_flaky 92 = .ok (.iconst 1, 1) := by decide +kernel
theorem dd_M_flaky_93 : decode cc_M_flaky 93 = .ok (.if_icmp .ne 7, 3) := by decide +kernel
theorem dd_M_flaky_96 : decode cc_M_flaky 96 = .ok (.iconst 1, 1) := by decide +kernel
theorem dd_M_flaky_97 : decode cc_M_flaky 97 = .ok (.goto 4, 3) := by decide +kernel
theorem dd_M_flaky_100 : decode cc_M_flaky 100 = .ok (.iconst 0, 1) := by decide +kernel
theorem dd_M_flaky_101 : decode cc_M_flaky 101 = .ok (.istore_n 2, 1) := by decide +kernel
theorem dd_M_flaky_102 : decode cc_M_flaky 102 = .ok (.iinc 4 1, 3) := by decide +kernel
theorem dd_M_flaky_105 : decode cc_M_flaky 105 = .ok (.goto (-78), 3) := by decide +kernel
theorem dd_M_flaky_108 : decode cc_M_flaky 108 = .ok (.iload_n 3, 1) := by decide +kernel
theorem dd_M_flaky_109 : decode cc_M_flaky 109 = .ok (.ireturn, 1) := by decide +kernel
theorem dd_C_skipNumber_0 : decode cc_C_skipNumber 0 = .ok (.iload_n 1, 1) := by decide +kernel
theorem dd_C_skipNumber_1 : decode cc_C_skipNumber 1 = .ok (.bipush 10, 2) := by decide +kernel
theorem dd_C_skipNumber_3 : decode cc_C_skipNumber 3 = .ok (.if_icmp .lt 14, 3) := by decide +kernel
theorem dd_C_skipNumber_6 : decode cc_C_skipNumber 6 = .ok (.aload_n 0, 1) := by decide +kernel
theorem dd_C_skipNumber_7 : decode cc_C_skipNumber 7 = .ok (.iload_n 1, 1) := by decide +kernel
theorem dd_C_skipNumber_8 : decode cc_C_skipNumber 8 = .ok (.bipush 10, 2) := by decide +kernel
theorem dd_C_skipNumber_10 : decode cc_C_skipNumber 10 = .ok (.idiv, 1) := by decide +kernel
theorem dd_C_skipNumber_11 : decode cc_C_skipNumber 11 = .ok (.invokevirtual 41, 3) := by decide +kernel
theorem dd_C_skipNumber_14 : decode cc_C_skipNumber 14 = .ok (.ifCond .eq 18, 3) := by decide +kernel
theorem dd_C_skipNumber_17 : decode cc_C_skipNumber 17 = .ok (.aload_n 0, 1) := by decide +kernel
theorem dd_C_skipNumber_18 : decode cc_C_skipNumber 18 = .ok (.iload_n 1, 1) := by decide +kernel
theorem dd_C_skipNumber_19 : decode cc_C_skipNumber 19 = .ok (.bipush 10, 2) := by decide +kernel
theorem dd_C_skipNumber_21 : decode cc_C_skipNumber 21 = .ok (.irem, 1) := by decide +kernel
theorem dd_C_skipNumber_22 : decode cc_C_skipNumber 22 = .ok (.invokevirtual 41, 3) := by decide +kernel
theorem dd_C_skipNumber_25 : decode cc_C_skipNumber 25 = .ok (.ifCond .eq 7, 3) := by decide +kernel
theorem dd_C_skipNumber_28 : decode cc_C_skipNumber 28 = .ok (.iconst 1, 1) := by decide +kernel
theorem dd_C_skipNumber_29 : decode cc_C_skipNumber 29 = .ok (.goto 4, 3) := by decide +kernel
theorem dd_C_skipNumber_32 : decode cc_C_skipNumber 32 = .ok (.iconst 0, 1) := by decide +kernel
theorem dd_C_skipNumber_33 : decode cc_C_skipNumber 33 = .ok (.ireturn, 1) := by decide +kernel
theorem dd_C_takeName_0 : decode cc_C_takeName 0 = .ok (.lconst 0, 1) := by decide +kernel
theorem dd_C_takeName_1 : decode cc_C_takeName 1 = .ok (.lstore_n 1, 1) := by decide +kernel
theorem dd_C_takeName_2 : decode cc_C_takeName 2 = .ok (.iconst 0, 1) := by decide +kernel
theorem dd_C_takeName_3 : decode cc_C_takeName 3 = .ok (.istore_n 3, 1) := by decide +kernel
theorem dd_C_takeName_4 : decode cc_C_takeName 4 = .ok (.iload_n 3, 1) := by decide +kernel
theorem dd_C_takeName_5 : decode cc_C_takeName 5 = .ok (.bipush 6, 2) := by decide +kernel
theorem dd_C_takeName_7 : decode cc_C_takeName 7 = .ok (.if_icmp .ge 30, 3) := by decide +kernel
theorem dd_C_takeName_10 : decode cc_C_takeName 10 = .ok (.aload_n 0, 1) := by decide +kernel
theorem dd_C_takeName_11 : decode cc_C_takeName 11 = .ok (.invokevirtual 47, 3) := by decide +kernel
theorem dd_C_takeName_14 : decode cc_C_takeName 14 = .ok (.istore 4, 2) := by decide +kernel
theorem dd_C_takeName_16 : decode cc_C_takeName 16 = .ok (.iload 4, 2) := by decide +kernel
theorem dd_C_takeName_18 : decode cc_C_takeName 18 = .ok (.ifCond .ne 5, 3) := by decide +kernel
theorem dd_C_takeName_21 : decode cc_C_takeName 21 = .ok (.lload_n 1, 1) := by decide +kernel
theorem dd_C_takeName_22 : decode cc_C_takeName 22 = .ok (.lreturn, 1) := by decide +kernel
theorem dd_C_takeName_23 : decode cc_C_takeName 23 = .ok (.lload_n 1, 1) := by decide +kernel
theorem dd_C_takeName_24 : decode cc_C_takeName 24 = .ok (.iload_n 3, 1) := by decide +kernel
theorem dd_C_takeName_25 : decode cc_C_takeName 25 = .ok (.iload 4, 2) := by decide +kernel
theorem dd_C_takeName_27 : decode cc_C_takeName 27 = .ok (.invokestatic 50, 3) := by decide +kernel
theorem dd_C_takeName_30 : decode cc_C_takeName 30 = .ok (.lstore_n 1, 1) := by decide +kernel
theorem dd_C_takeName_31 : decode cc_C_takeName 31 = .ok (.iinc 3 1, 3) := by decide +kernel
theorem dd_C_takeName_34 : decode cc_C_takeName 34 = .ok (.goto (-30), 3) := by decide +kernel
theorem dd_C_takeName_37 : decode cc_C_takeName 37 = .ok (.lload_n 1, 1) := by decide +kernel
theorem dd_C_takeName_38 : decode cc_C_takeName 38 = .ok (.lreturn, 1) := by decide +kernel
theorem dd_N_sizeOf_0 : decode cc_N_sizeOf 0 = .ok (.iconst 0, 1) := by decide +kernel
theorem dd_N_sizeOf_1 : decode cc_N_sizeOf 1 = .ok (.istore_n 2, 1) := by decide +kernel
theorem dd_N_sizeOf_2 : decode cc_N_sizeOf 2 = .ok (.iload_n 2, 1) := by decide +kernel
theorem dd_N_sizeOf_3 : decode cc_N_sizeOf 3 = .ok (.bipush 6, 2) := by decide +kernel
theorem dd_N_sizeOf_5 : decode cc_N_sizeOf 5 = .ok (.if_icmp .ge 17, 3) := by decide +kernel
theorem dd_N_sizeOf_8 : decode cc_N_sizeOf 8 = .ok (.lload_n 0, 1) := by decide +kernel
theorem dd_N_sizeOf_9 : decode cc_N_sizeOf 9 = .ok (.iload_n 2, 1) := by decide +kernel
theorem dd_N_sizeOf_10 : decode cc_N_sizeOf 10 = .ok (.invokestatic 9, 3) := by decide +kernel
theorem dd_N_sizeOf_13 : decode cc_N_sizeOf 13 = .ok (.ifCond .eq 9, 3) := by decide +kernel
theorem dd_N_sizeOf_16 : decode cc_N_sizeOf 16 = .ok (.iinc 2 1, 3) := by decide +kernel
theorem dd_N_sizeOf_19 : decode cc_N_sizeOf 19 = .ok (.goto (-17), 3) := by decide +kernel
theorem dd_N_sizeOf_22 : decode cc_N_sizeOf 22 = .ok (.iload_n 2, 1) := by decide +kernel
theorem dd_N_sizeOf_23 : decode cc_N_sizeOf 23 = .ok (.ireturn, 1) := by decide +kernel
theorem dd_P_addWritten_0 : decode cc_P_addWritten 0 = .ok (.lload_n 1, 1) := by decide +kernel
theorem dd_P_addWritten_1 : decode cc_P_addWritten 1 = .ok (.invokestatic 39, 3) := by decide +kernel
theorem dd_P_addWritten_4 : decode cc_P_addWritten 4 = .ok (.istore_n 3, 1) := by decide +kernel
theorem dd_P_addWritten_5 : decode cc_P_addWritten 5 = .ok (.iconst 0, 1) := by decide +kernel
theorem dd_P_addWritten_6 : decode cc_P_addWritten 6 = .ok (.istore 4, 2) := by decide +kernel
theorem dd_P_addWritten_8 : decode cc_P_addWritten 8 = .ok (.iload 4, 2) := by decide +kernel
theorem dd_P_addWritten_10 : decode cc_P_addWritten 10 = .ok (.iload_n 3, 1) := by decide +kernel
theorem dd_P_addWritten_11 : decode cc_P_addWritten 11 = .ok (.if_icmp .ge 46, 3) := by decide +kernel
theorem dd_P_addWritten_14 : decode cc_P_addWritten 14 = .ok (.lload_n 1, 1) := by decide +kernel
theorem dd_P_addWritten_15 : decode cc_P_addWritten 15 = .ok (.iload 4, 2) := by decide +kernel
theorem dd_P_addWritten_17 : decode cc_P_addWritten 17 = .ok (.invokestatic 45, 3) := by decide +kernel
theorem dd_P_addWritten_20 : decode cc_P_addWritten 20 = .ok (.i2c, 1) := by decide +kernel
theorem dd_P_addWritten_21 : decode cc_P_addWritten 21 = .ok (.istore 5, 2) := by decide +kernel
theorem dd_P_addWritten_23 : decode cc_P_addWritten 23 = .ok (.iload 5, 2) := by decide +kernel
theorem dd_P_addWritten_25 : decode cc_P_addWritten 25 = .ok (.bipush 92, 2) := by decide +kernel
theorem dd_P_addWritten_27 : decode cc_P_addWritten 27 = .ok (.if_icmp .eq 10, 3) := by decide +kernel
theorem dd_P_addWritten_30 : decode cc_P_addWritten 30 = .ok (.iload 5, 2) := by decide +kernel
theorem dd_P_addWritten_32 : decode cc_P_addWritten 32 = .ok (.bipush 35, 2) := by decide +kernel
theorem dd_P_addWritten_34 : decode cc_P_addWritten 34 = .ok (.if_icmp .ne 10, 3) := by decide +kernel
theorem dd_P_addWritten_37 : decode cc_P_addWritten 37 = .ok (.aload_n 0, 1) := by decide +kernel
theorem dd_P_addWritten_38 : decode cc_P_addWritten 38 = .ok (.bipush 92, 2) := by decide +kernel
theorem dd_P_addWritten_40 : decode cc_P_addWritten 40 = .ok (.invokevirtual 29, 3) := by decide +kernel
theorem dd_P_addWritten_43 : decode cc_P_addWritten 43 = .ok (.pop, 1) := by decide +kernel
theorem dd_P_addWritten_44 : decode cc_P_addWritten 44 = .ok (.aload_n 0, 1) := by decide +kernel
theorem dd_P_addWritten_45 : decode cc_P_addWritten 45 = .ok (.iload 5, 2) := by decide +kernel
theorem dd_P_addWritten_47 : decode cc_P_addWritten 47 = .ok (.invokevirtual 29, 3) := by decide +kernel
theorem dd_P_addWritten_50 : decode cc_P_addWritten 50 = .ok (.pop, 1) := by decide +kernel
theorem dd_P_addWritten_51 : decode cc_P_addWritten 51 = .ok (.iinc 4 1, 3) := by decide +kernel
theorem dd_P_addWritten_54 : decode cc_P_addWritten 54 = .ok (.goto (-46), 3) := by decide +kernel
theorem dd_P_addWritten_57 : decode cc_P_addWritten 57 = .ok (.return_, 1) := by decide +kernel
theorem dd_W_writeSubtest_0 : decode cc_W_writeSubtest 0 = .ok (.aload_n 0, 1) := by decide +kernel
theorem dd_W_writeSubtest_1 : decode cc_W_writeSubtest 1 = .ok (.getfield 9, 3) := by decide +kernel
theorem dd_W_writeSubtest_4 : decode cc_W_writeSubtest 4 = .ok (.aload_n 0, 1) := by decide +kernel
theorem dd_W_writeSubtest_5 : decode cc_W_writeSubtest 5 = .ok (.getfield 15, 3) := by decide +kernel
theorem dd_W_writeSubtest_8 : decode cc_W_writeSubtest 8 = .ok (.iload_n 1, 1) := by decide +kernel
theorem dd_W_writeSubtest_9 : decode cc_W_writeSubtest 9 = .ok (.invokevirtual 87, 3) := by decide +kernel
theorem dd_W_writeSubtest_12 : decode cc_W_writeSubtest 12 = .ok (.invokevirtual 76, 3) := by decide +kernel
theorem dd_W_writeSubtest_15 : decode cc_W_writeSubtest 15 = .ok (.aload_n 0, 1) := by decide +kernel
theorem dd_W_writeSubtest_16 : decode cc_W_writeSubtest 16 = .ok (.getfield 9, 3) := by decide +kernel
theorem dd_W_writeSubtest_19 : decode cc_W_writeSubtest 19 = .ok (.ldc 90, 2) := by decide +kernel
theorem dd_W_writeSubtest_21 : decode cc_W_writeSubtest 21 = .ok (.invokevirtual 27, 3) := by decide +kernel
theorem dd_W_writeSubtest_24 : decode cc_W_writeSubtest 24 = .ok (.aload_n 0, 1) := by decide +kernel
theorem dd_W_writeSubtest_25 : decode cc_W_writeSubtest 25 = .ok (.getfield 9, 3) := by decide +kernel
theorem dd_W_writeSubtest_28 : decode cc_W_writeSubtest 28 = .ok (.aload_n 0, 1) := by decide +kernel
theorem dd_W_writeSubtest_29 : decode cc_W_writeSubtest 29 = .ok (.getfield 15, 3) := by decide +kernel
theorem dd_W_writeSubtest_32 : decode cc_W_writeSubtest 32 = .ok (.iload_n 1, 1) := by decide +kernel
theorem dd_W_writeSubtest_33 : decode cc_W_writeSubtest 33 = .ok (.invokevirtual 92, 3) := by decide +kernel
theorem dd_W_writeSubtest_36 : decode cc_W_writeSubtest 36 = .ok (.invokevirtual 96, 3) := by decide +kernel
theorem dd_W_writeSubtest_39 : decode cc_W_writeSubtest 39 = .ok (.aload_n 0, 1) := by decide +kernel
theorem dd_W_writeSubtest_40 : decode cc_W_writeSubtest 40 = .ok (.getfield 9, 3) := by decide +kernel
theorem dd_W_writeSubtest_43 : decode cc_W_writeSubtest 43 = .ok (.bipush 10, 2) := by decide +kernel
theorem dd_W_writeSubtest_45 : decode cc_W_writeSubtest 45 = .ok (.invokevirtual 31, 3) := by decide +kernel
theorem dd_W_writeSubtest_48 : decode cc_W_writeSubtest 48 = .ok (.pop, 1) := by decide +kernel
theorem dd_W_writeSubtest_49 : decode cc_W_writeSubtest 49 = .ok (.return_, 1) := by decide +kernel
theorem dd_R_rowSize_0 : decode cc_R_rowSize 0 = .ok (.aload_n 0, 1) := by decide +kernel
theorem dd_R_rowSize_1 : decode cc_R_rowSize 1 = .ok (.iload_n 1, 1) := by decide +kernel
theorem dd_R_rowSize_2 : decode cc_R_rowSize 2 = .ok (.aload_n 0, 1) := by decide +kernel
theorem dd_R_rowSize_3 : decode cc_R_rowSize 3 = .ok (.getfield 25, 3) := by decide +kernel
theorem dd_R_rowSize_6 : decode cc_R_rowSize 6 = .ok (.invokevirtual 41, 3) := by decide +kernel
theorem dd_R_rowSize_9 : decode cc_R_rowSize 9 = .ok (.ireturn, 1) := by decide +kernel
theorem dd_R_placeOf_0 : decode cc_R_placeOf 0 = .ok (.aload_n 0, 1) := by decide +kernel
theorem dd_R_placeOf_1 : decode cc_R_placeOf 1 = .ok (.iload_n 1, 1) := by decide +kernel
theorem dd_R_placeOf_2 : decode cc_R_placeOf 2 = .ok (.invokevirtual 35, 3) := by decide +kernel
theorem dd_R_placeOf_5 : decode cc_R_placeOf 5 = .ok (.ifCond .eq 19, 3) := by decide +kernel
theorem dd_R_placeOf_8 : decode cc_R_placeOf 8 = .ok (.aload_n 0, 1) := by decide +kernel
theorem dd_R_placeOf_9 : decode cc_R_placeOf 9 = .ok (.aload_n 0, 1) := by decide +kernel
theorem dd_R_placeOf_10 : decode cc_R_placeOf 10 = .ok (.getfield 18, 3) := by decide +kernel
theorem dd_R_placeOf_13 : decode cc_R_placeOf 13 = .ok (.iload_n 1, 1) := by decide +kernel
theorem dd_R_placeOf_14 : decode cc_R_placeOf 14 = .ok (.iaload, 1) := by decide +kernel
theorem dd_R_placeOf_15 : decode cc_R_placeOf 15 = .ok (.iload_n 1, 1) := by decide +kernel
theorem dd_R_placeOf_16 : decode cc_R_placeOf 16 = .ok (.iconst 1, 1) := by decide +kernel
theorem dd_R_placeOf_17 : decode cc_R_placeOf 17 = .ok (.iadd, 1) := by decide +kernel
theorem dd_R_placeOf_18 : decode cc_R_placeOf 18 = .ok (.invokevirtual 41, 3) := by decide +kernel
theorem dd_R_placeOf_21 : decode cc_R_placeOf 21 = .ok (.goto 4, 3) := by decide +kernel
theorem dd_R_placeOf_24 : decode cc_R_placeOf 24 = .ok (.iconst (-1), 1) := by decide +kernel
theorem dd_R_placeOf_25 : decode cc_R_placeOf 25 = .ok (.ireturn, 1) := by decide +kernel
theorem dd_R_closeLastOpen_0 : decode cc_R_closeLastOpen 0 = .ok (.aload_n 0, 1) := by decide +kernel
theorem dd_R_closeLastOpen_1 : decode cc_R_closeLastOpen 1 = .ok (.aload_n 0, 1) := by decide +kernel
theorem dd_R_closeLastOpen_2 : decode cc_R_closeLastOpen 2 = .ok (.getfield 29, 3) := by decide +kernel
theorem dd_R_closeLastOpen_5 : decode cc_R_closeLastOpen 5 = .ok (.invokevirtual 35, 3) := by decide +kernel
theorem dd_R_closeLastOpen_8 : decode cc_R_closeLastOpen 8 = .ok (.ifCond .ne 5, 3) := by decide +kernel
theorem dd_R_closeLastOpen_11 : decode cc_R_closeLastOpen 11 = .ok (.iconst 0, 1) := by decide +kernel
theorem dd_R_closeLastOpen_12 : decode cc_R_closeLastOpen 12 = .ok (.ireturn, 1) := by decide +kernel
theorem dd_R_closeLastOpen_13 : decode cc_R_closeLastOpen 13 = .ok (.aload_n 0, 1) := by decide +kernel
theorem dd_R_closeLastOpen_14 : decode cc_R_closeLastOpen 14 = .ok (.getfield 9, 3) := by decide +kernel
theorem dd_R_closeLastOpen_17 : decode cc_R_closeLastOpen 17 = .ok (.aload_n 0, 1) := by decide +kernel
theorem dd_R_closeLastOpen_18 : decode cc_R_closeLastOpen 18 = .ok (.getfield 29, 3) := by decide +kernel
theorem dd_R_closeLastOpen_21 : decode cc_R_closeLastOpen 21 = .ok (.aload_n 0, 1) := by decide +kernel
theorem dd_R_closeLastOpen_22 : decode cc_R_closeLastOpen 22 = .ok (.aload_n 0, 1) := by decide +kernel
theorem dd_R_closeLastOpen_23 : decode cc_R_closeLastOpen 23 = .ok (.getfield 29, 3) := by decide +kernel
theorem dd_R_closeLastOpen_26 : decode cc_R_closeLastOpen 26 = .ok (.invokevirtual 45, 3) := by decide +kernel
theorem dd_R_closeLastOpen_29 : decode cc_R_closeLastOpen 29 = .ok (.ifCond .eq 7, 3) := by decide +kernel
theorem dd_R_closeLastOpen_32 : decode cc_R_closeLastOpen 32 = .ok (.iconst 5, 1) := by decide +kernel
theorem dd_R_closeLastOpen_33 : decode cc_R_closeLastOpen 33 = .ok (.goto 4, 3) := by decide +kernel
theorem dd_R_closeLastOpen_36 : decode cc_R_closeLastOpen 36 = .ok (.iconst 4, 1) := by decide +kernel
theorem dd_R_closeLastOpen_37 : decode cc_R_closeLastOpen 37 = .ok (.iastore, 1) := by decide +kernel
theorem dd_R_closeLastOpen_38 : decode cc_R_closeLastOpen 38 = .ok (.aload_n 0, 1) := by decide +kernel
theorem dd_R_closeLastOpen_39 : decode cc_R_closeLastOpen 39 = .ok (.aload_n 0, 1) := by decide +kernel
theorem dd_R_closeLastOpen_40 : decode cc_R_closeLastOpen 40 = .ok (.getfield 18, 3) := by decide +kernel
theorem dd_R_closeLastOpen_43 : decode cc_R_closeLastOpen 43 = .ok (.aload_n 0, 1) := by decide +kernel
theorem dd_R_closeLastOpen_44 : decode cc_R_closeLastOpen 44 = .ok (.getfield 29, 3) := by decide +kernel
theorem dd_R_closeLastOpen_47 : decode cc_R_closeLastOpen 47 = .ok (.iaload, 1) := by decide +kernel
theorem dd_R_closeLastOpen_48 : decode cc_R_closeLastOpen 48 = .ok (.putfield 29, 3) := by decide +kernel
theorem dd_R_closeLastOpen_51 : decode cc_R_closeLastOpen 51 = .ok (.aload_n 0, 1) := by decide +kernel
theorem dd_R_closeLastOpen_52 : decode cc_R_closeLastOpen 52 = .ok (.dup, 1) := by decide +kernel
theorem dd_R_closeLastOpen_53 : decode cc_R_closeLastOpen 53 = .ok (.getfield 32, 3) := by decide +kernel
theorem dd_R_closeLastOpen_56 : decode cc_R_closeLastOpen 56 = .ok (.iconst 1, 1) := by decide +kernel
theorem dd_R_closeLastOpen_57 : decode cc_R_closeLastOpen 57 = .ok (.isub, 1) := by decide +kernel
theorem dd_R_closeLastOpen_58 : decode cc_R_closeLastOpen 58 = .ok (.putfield 32, 3) := by decide +kernel
theorem dd_R_closeLastOpen_61 : decode cc_R_closeLastOpen 61 = .ok (.iconst 1, 1) := by decide +kernel
theorem dd_R_closeLastOpen_62 : decode cc_R_closeLastOpen 62 = .ok (.ireturn, 1) := by decide +kernel
theorem dd_V_letter_0 : decode cc_V_letter 0 = .ok (.aload_n 0, 1) := by decide +kernel
theorem dd_V_letter_1 : decode cc_V_letter 1 = .ok (.getfield 28, 3) := by decide +kernel
theorem dd_V_letter_4 : decode cc_V_letter 4 = .ok (.invokestatic 32, 3) := by decide +kernel
theorem dd_V_letter_7 : decode cc_V_letter 7 = .ok (.istore_n 2, 1) := by decide +kernel
theorem dd_V_letter_8 : decode cc_V_letter 8 = .ok (.iload_n 1, 1) := by decide +kernel
theorem dd_V_letter_9 : decode cc_V_letter 9 = .ok (.invokestatic 36, 3) := by decide +kernel
theorem dd_V_letter_12 : decode cc_V_letter 12 = .ok (.ifCond .eq 9, 3) := by decide +kernel
theorem dd_V_letter_15 : decode cc_V_letter 15 = .ok (.iload_n 2, 1) := by decide +kernel
theorem dd_V_letter_16 : decode cc_V_letter 16 = .ok (.bipush 6, 2) := by decide +kernel
theorem dd_V_letter_18 : decode cc_V_letter 18 = .ok (.if_icmp .lt 5, 3) := by decide +kernel
theorem dd_V_letter_21 : decode cc_V_letter 21 = .ok (.iconst 0, 1) := by decide +kernel
theorem dd_V_letter_22 : decode cc_V_letter 22 = .ok (.ireturn, 1) := by decide +kernel
theorem dd_V_letter_23 : decode cc_V_letter 23 = .ok (.aload_n 0, 1) := by decide +kernel
theorem dd_V_letter_24 : decode cc_V_letter 24 = .ok (.aload_n 0, 1) := by decide +kernel
theorem dd_V_letter_25 : decode cc_V_letter 25 = .ok (.getfield 28, 3) := by decide +kernel
theorem dd_V_letter_28 : decode cc_V_letter 28 = .ok (.iload_n 2, 1) := by decide +kernel
theorem dd_V_letter_29 : decode cc_V_letter 29 = .ok (.iload_n 1, 1) := by decide +kernel
theorem dd_V_letter_30 : decode cc_V_letter 30 = .ok (.invokestatic 40, 3) := by decide +kernel
theorem dd_V_letter_33 : decode cc_V_letter 33 = .ok (.putfield 28, 3) := by decide +kernel
theorem dd_V_letter_36 : decode cc_V_letter 36 = .ok (.iconst 1, 1) := by decide +kernel
theorem dd_V_letter_37 : decode cc_V_letter 37 = .ok (.ireturn, 1) := by decide +kernel
theorem dd_V_open_0 : decode cc_V_open 0 = .ok (.aload_n 0, 1) := by decide +kernel
theorem dd_V_open_1 : decode cc_V_open 1 = .ok (.bipush 6, 2) := by decide +kernel
theorem dd_V_open_3 : decode cc_V_open 3 = .ok (.invokevirtual 44, 3) := by decide +kernel
theorem dd_V_open_6 : decode cc_V_open 6 = .ok (.ireturn, 1) := by decide +kernel
theorem dd_V_close_0 : decode cc_V_close 0 = .ok (.aload_n 0, 1) := by decide +kernel
theorem dd_V_close_1 : decode cc_V_close 1 = .ok (.getfield 19, 3) := by decide +kernel
theorem dd_V_close_4 : decode cc_V_close 4 = .ok (.invokevirtual 48, 3) := by decide +kernel
theorem dd_V_close_7 : decode cc_V_close 7 = .ok (.ireturn, 1) := by decide +kernel
theorem dd_V_test_0 : decode cc_V_test 0 = .ok (.iload_n 1, 1) := by decide +kernel
theorem dd_V_test_1 : decode cc_V_test 1 = .ok (.ifCond .lt 8, 3) := by decide +kernel
theorem dd_V_test_4 : decode cc_V_test 4 = .ok (.iload_n 1, 1) := by decide +kernel
theorem dd_V_test_5 : decode cc_V_test 5 = .ok (.iconst 3, 1) := by decide +kernel
theorem dd_V_test_6 : decode cc_V_test 6 = .ok (.if_icmp .le 5, 3) := by decide +kernel
theorem dd_V_test_9 : decode cc_V_test 9 = .ok (.iconst (-1), 1) := by decide +kernel
theorem dd_V_test_10 : decode cc_V_test 10 = .ok (.ireturn, 1) := by decide +kernel
theorem dd_V_test_11 : decode cc_V_test 11 = .ok (.aload_n 0, 1) := by decide +kernel
theorem dd_V_test_12 : decode cc_V_test 12 = .ok (.iload_n 1, 1) := by decide +kernel
theorem dd_V_test_13 : decode cc_V_test 13 = .ok (.invokevirtual 44, 3) := by decide +kernel
theorem dd_V_test_16 : decode cc_V_test 16 = .ok (.ireturn, 1) := by decide +kernel
theorem dd_V_name_0 : decode cc_V_name 0 = .ok (.aload_n 0, 1) := by decide +kernel
theorem dd_V_name_1 : decode cc_V_name 1 = .ok (.getfield 19, 3) := by decide +kernel
theorem dd_V_name_4 : decode cc_V_name 4 = .ok (.iload_n 1, 1) := by decide +kernel
theorem dd_V_name_5 : decode cc_V_name 5 = .ok (.invokevirtual 69, 3) := by decide +kernel
theorem dd_V_name_8 : decode cc_V_name 8 = .ok (.lstore_n 3, 1) := by decide +kernel
theorem dd_V_name_9 : decode cc_V_name 9 = .ok (.iload_n 2, 1) := by decide +kernel
theorem dd_V_name_10 : decode cc_V_name 10 = .ok (.ifCond .lt 19, 3) := by decide +kernel
theorem dd_V_name_13 : decode cc_V_name 13 = .ok (.iload_n 2, 1) := by decide +kernel
theorem dd_V_name_14 : decode cc_V_name 14 = .ok (.lload_n 3, 1) := by decide +kernel
theorem dd_V_name_15 : decode cc_V_name 15 = .ok (.invokestatic 32, 3) := by decide +kernel
theorem dd_V_name_18 : decode cc_V_name 18 = .ok (.if_icmp .ge 11, 3) := by decide +kernel
theorem dd_V_name_21 : decode cc_V_name 21 = .ok (.lload_n 3, 1) := by decide +kernel
theorem dd_V_name_22 : decode cc_V_name 22 = .ok (.iload_n 2, 1) := by decide +kernel
theorem dd_V_name_23 : decode cc_V_name 23 = .ok (.invokestatic 73, 3) := by decide +kernel
theorem dd_V_name_26 : decode cc_V_name 26 = .ok (.goto 4, 3) := by decide +kernel
theorem dd_V_name_29 : decode cc_V_name 29 = .ok (.iconst (-1), 1) := by decide +kernel
theorem dd_V_name_30 : decode cc_V_name 30 = .ok (.ireturn, 1) := by decide +kernel
theorem dd_V_put_0 : decode cc_V_put 0 = .ok (.iload_n 1, 1) := by decide +kernel
theorem dd_V_put_1 : decode cc_V_put 1 = .ok (.invokestatic 100, 3) := by decide +kernel
theorem dd_V_put_4 : decode cc_V_put 4 = .ok (.ifCond .eq 18, 3) := by decide +kernel
theorem dd_V_put_7 : decode cc_V_put 7 = .ok (.aload_n 0, 1) := by decide +kernel
end
section
theorem dd_V_put_8 : decode cc_V_put 8 = .ok (.getfield 10, 3) := by decide +kernel
theorem dd_V_put_11 : decode cc_V_put 11 = .ok (.iload_n 1, 1) := by decide +kernel
theorem dd_V_put_12 : decode cc_V_put 12 = .ok (.invokevirtual 103, 3) := by decide +kernel
theorem dd_V_put_15 : decode cc_V_put 15 = .ok (.ifCond .eq 7, 3) := by decide +kernel
theorem dd_V_put_18 : decode cc_V_put 18 = .ok (.iconst 1, 1) := by decide +kernel
theorem dd_V_put_19 : decode cc_V_put 19 = .ok (.goto 4, 3) := by decide +kernel
theorem dd_V_put_22 : decode cc_V_put 22 = .ok (.iconst 0, 1) := by decide +kernel
theorem dd_V_put_23 : decode cc_V_put 23 = .ok (.ireturn, 1) := by decide +kernel
theorem dd_V_poke_0 : decode cc_V_poke 0 = .ok (.iload_n 2, 1) := by decide +kernel
theorem dd_V_poke_1 : decode cc_V_poke 1 = .ok (.invokestatic 100, 3) := by decide +kernel
theorem dd_V_poke_4 : decode cc_V_poke 4 = .ok (.ifCond .eq 19, 3) := by decide +kernel
theorem dd_V_poke_7 : decode cc_V_poke 7 = .ok (.aload_n 0, 1) := by decide +kernel
theorem dd_V_poke_8 : decode cc_V_poke 8 = .ok (.getfield 10, 3) := by decide +kernel
theorem dd_V_poke_11 : decode cc_V_poke 11 = .ok (.iload_n 1, 1) := by decide +kernel
theorem dd_V_poke_12 : decode cc_V_poke 12 = .ok (.iload_n 2, 1) := by decide +kernel
theorem dd_V_poke_13 : decode cc_V_poke 13 = .ok (.invokevirtual 106, 3) := by decide +kernel
theorem dd_V_poke_16 : decode cc_V_poke 16 = .ok (.ifCond .eq 7, 3) := by decide +kernel
theorem dd_V_poke_19 : decode cc_V_poke 19 = .ok (.iconst 1, 1) := by decide +kernel
theorem dd_V_poke_20 : decode cc_V_poke 20 = .ok (.goto 4, 3) := by decide +kernel
theorem dd_V_poke_23 : decode cc_V_poke 23 = .ok (.iconst 0, 1) := by decide +kernel
theorem dd_V_poke_24 : decode cc_V_poke 24 = .ok (.ireturn, 1) := by decide +kernel
theorem dd_E_takeTest_0 : decode cc_E_takeTest 0 = .ok (.aload_n 0, 1) := by decide +kernel
theorem dd_E_takeTest_1 : decode cc_E_takeTest 1 = .ok (.getfield 19, 3) := by decide +kernel
theorem dd_E_takeTest_4 : decode cc_E_takeTest 4 = .ok (.aload_n 0, 1) := by decide +kernel
theorem dd_E_takeTest_5 : decode cc_E_takeTest 5 = .ok (.getfield 19, 3) := by decide +kernel
theorem dd_E_takeTest_8 : decode cc_E_takeTest 8 = .ok (.invokevirtual 67, 3) := by decide +kernel
theorem dd_E_takeTest_11 : decode cc_E_takeTest 11 = .ok (.invokevirtual 70, 3) := by decide +kernel
theorem dd_E_takeTest_14 : decode cc_E_takeTest 14 = .ok (.iconst 1, 1) := by decide +kernel
theorem dd_E_takeTest_15 : decode cc_E_takeTest 15 = .ok (.iadd, 1) := by decide +kernel
theorem dd_E_takeTest_16 : decode cc_E_takeTest 16 = .ok (.istore 4, 2) := by decide +kernel
theorem dd_E_takeTest_18 : decode cc_E_takeTest 18 = .ok (.aload_n 0, 1) := by decide +kernel
theorem dd_E_takeTest_19 : decode cc_E_takeTest 19 = .ok (.getfield 15, 3) := by decide +kernel
theorem dd_E_takeTest_22 : decode cc_E_takeTest 22 = .ok (.iload 4, 2) := by decide +kernel
theorem dd_E_takeTest_24 : decode cc_E_takeTest 24 = .ok (.invokevirtual 74, 3) := by decide +kernel
theorem dd_E_takeTest_27 : decode cc_E_takeTest 27 = .ok (.ifCond .eq 15, 3) := by decide +kernel
theorem dd_E_takeTest_30 : decode cc_E_takeTest 30 = .ok (.aload_n 0, 1) := by decide +kernel
theorem dd_E_takeTest_31 : decode cc_E_takeTest 31 = .ok (.getfield 15, 3) := by decide +kernel
theorem dd_E_takeTest_34 : decode cc_E_takeTest 34 = .ok (.ldc 99, 2) := by decide +kernel
theorem dd_E_takeTest_36 : decode cc_E_takeTest 36 = .ok (.invokevirtual 45, 3) := by decide +kernel
theorem dd_E_takeTest_39 : decode cc_E_takeTest 39 = .ok (.ifCond .ne 5, 3) := by decide +kernel
theorem dd_E_takeTest_42 : decode cc_E_takeTest 42 = .ok (.iconst 0, 1) := by decide +kernel
theorem dd_E_takeTest_43 : decode cc_E_takeTest 43 = .ok (.ireturn, 1) := by decide +kernel
theorem dd_E_takeTest_44 : decode cc_E_takeTest 44 = .ok (.aload_n 0, 1) := by decide +kernel
theorem dd_E_takeTest_45 : decode cc_E_takeTest 45 = .ok (.getfield 15, 3) := by decide +kernel
theorem dd_E_takeTest_48 : decode cc_E_takeTest 48 = .ok (.invokevirtual 79, 3) := by decide +kernel
theorem dd_E_takeTest_51 : decode cc_E_takeTest 51 = .ok (.lstore 5, 2) := by decide +kernel
theorem dd_E_takeTest_53 : decode cc_E_takeTest 53 = .ok (.aload_n 0, 1) := by decide +kernel
theorem dd_E_takeTest_54 : decode cc_E_takeTest 54 = .ok (.getfield 15, 3) := by decide +kernel
theorem dd_E_takeTest_57 : decode cc_E_takeTest 57 = .ok (.aload_n 2, 1) := by decide +kernel
theorem dd_E_takeTest_58 : decode cc_E_takeTest 58 = .ok (.invokevirtual 45, 3) := by decide +kernel
theorem dd_E_takeTest_61 : decode cc_E_takeTest 61 = .ok (.ifCond .eq 7, 3) := by decide +kernel
theorem dd_E_takeTest_64 : decode cc_E_takeTest 64 = .ok (.iload_n 3, 1) := by decide +kernel
theorem dd_E_takeTest_65 : decode cc_E_takeTest 65 = .ok (.goto 4, 3) := by decide +kernel
theorem dd_E_takeTest_68 : decode cc_E_takeTest 68 = .ok (.iload_n 1, 1) := by decide +kernel
theorem dd_E_takeTest_69 : decode cc_E_takeTest 69 = .ok (.istore 7, 2) := by decide +kernel
theorem dd_E_takeTest_71 : decode cc_E_takeTest 71 = .ok (.aload_n 0, 1) := by decide +kernel
theorem dd_E_takeTest_72 : decode cc_E_takeTest 72 = .ok (.getfield 19, 3) := by decide +kernel
theorem dd_E_takeTest_75 : decode cc_E_takeTest 75 = .ok (.iload 7, 2) := by decide +kernel
theorem dd_E_takeTest_77 : decode cc_E_takeTest 77 = .ok (.lload 5, 2) := by decide +kernel
theorem dd_E_takeTest_79 : decode cc_E_takeTest 79 = .ok (.invokevirtual 83, 3) := by decide +kernel
theorem dd_E_takeTest_82 : decode cc_E_takeTest 82 = .ok (.ifCond .lt 7, 3) := by decide +kernel
theorem dd_E_takeTest_85 : decode cc_E_takeTest 85 = .ok (.iconst 1, 1) := by decide +kernel
theorem dd_E_takeTest_86 : decode cc_E_takeTest 86 = .ok (.goto 4, 3) := by decide +kernel
theorem dd_E_takeTest_89 : decode cc_E_takeTest 89 = .ok (.iconst 0, 1) := by decide +kernel
theorem dd_E_takeTest_90 : decode cc_E_takeTest 90 = .ok (.ireturn, 1) := by decide +kernel
theorem dd_E_takeSuiteEnd_0 : decode cc_E_takeSuiteEnd 0 = .ok (.aload_n 0, 1) := by decide +kernel
theorem dd_E_takeSuiteEnd_1 : decode cc_E_takeSuiteEnd 1 = .ok (.getfield 19, 3) := by decide +kernel
theorem dd_E_takeSuiteEnd_4 : decode cc_E_takeSuiteEnd 4 = .ok (.invokevirtual 67, 3) := by decide +kernel
theorem dd_E_takeSuiteEnd_7 : decode cc_E_takeSuiteEnd 7 = .ok (.istore_n 1, 1) := by decide +kernel
theorem dd_E_takeSuiteEnd_8 : decode cc_E_takeSuiteEnd 8 = .ok (.aload_n 0, 1) := by decide +kernel
theorem dd_E_takeSuiteEnd_9 : decode cc_E_takeSuiteEnd 9 = .ok (.getfield 19, 3) := by decide +kernel
theorem dd_E_takeSuiteEnd_12 : decode cc_E_takeSuiteEnd 12 = .ok (.invokevirtual 101, 3) := by decide +kernel
theorem dd_E_takeSuiteEnd_15 : decode cc_E_takeSuiteEnd 15 = .ok (.pop, 1) := by decide +kernel
theorem dd_E_takeSuiteEnd_16 : decode cc_E_takeSuiteEnd 16 = .ok (.aload_n 0, 1) := by decide +kernel
theorem dd_E_takeSuiteEnd_17 : decode cc_E_takeSuiteEnd 17 = .ok (.getfield 15, 3) := by decide +kernel
theorem dd_E_takeSuiteEnd_20 : decode cc_E_takeSuiteEnd 20 = .ok (.aload_n 0, 1) := by decide +kernel
theorem dd_E_takeSuiteEnd_21 : decode cc_E_takeSuiteEnd 21 = .ok (.getfield 19, 3) := by decide +kernel
theorem dd_E_takeSuiteEnd_24 : decode cc_E_takeSuiteEnd 24 = .ok (.iload_n 1, 1) := by decide +kernel
theorem dd_E_takeSuiteEnd_25 : decode cc_E_takeSuiteEnd 25 = .ok (.invokevirtual 104, 3) := by decide +kernel
theorem dd_E_takeSuiteEnd_28 : decode cc_E_takeSuiteEnd 28 = .ok (.invokevirtual 61, 3) := by decide +kernel
theorem dd_E_takeSuiteEnd_31 : decode cc_E_takeSuiteEnd 31 = .ok (.ifCond .eq 85, 3) := by decide +kernel
theorem dd_E_takeSuiteEnd_34 : decode cc_E_takeSuiteEnd 34 = .ok (.aload_n 0, 1) := by decide +kernel
theorem dd_E_takeSuiteEnd_35 : decode cc_E_takeSuiteEnd 35 = .ok (.getfield 15, 3) := by decide +kernel
theorem dd_E_takeSuiteEnd_38 : decode cc_E_takeSuiteEnd 38 = .ok (.aload_n 0, 1) := by decide +kernel
theorem dd_E_takeSuiteEnd_39 : decode cc_E_takeSuiteEnd 39 = .ok (.getfield 19, 3) := by decide +kernel
theorem dd_E_takeSuiteEnd_42 : decode cc_E_takeSuiteEnd 42 = .ok (.iload_n 1, 1) := by decide +kernel
theorem dd_E_takeSuiteEnd_43 : decode cc_E_takeSuiteEnd 43 = .ok (.invokevirtual 107, 3) := by decide +kernel
theorem dd_E_takeSuiteEnd_46 : decode cc_E_takeSuiteEnd 46 = .ok (.iconst 4, 1) := by decide +kernel
theorem dd_E_takeSuiteEnd_47 : decode cc_E_takeSuiteEnd 47 = .ok (.if_icmp .ne 8, 3) := by decide +kernel
theorem dd_E_takeSuiteEnd_50 : decode cc_E_takeSuiteEnd 50 = .ok (.ldc 87, 2) := by decide +kernel
theorem dd_E_takeSuiteEnd_52 : decode cc_E_takeSuiteEnd 52 = .ok (.goto 5, 3) := by decide +kernel
theorem dd_E_takeSuiteEnd_55 : decode cc_E_takeSuiteEnd 55 = .ok (.ldc 95, 2) := by decide +kernel
theorem dd_E_takeSuiteEnd_57 : decode cc_E_takeSuiteEnd 57 = .ok (.invokevirtual 45, 3) := by decide +kernel
theorem dd_E_takeSuiteEnd_60 : decode cc_E_takeSuiteEnd 60 = .ok (.ifCond .eq 56, 3) := by decide +kernel
theorem dd_E_takeSuiteEnd_63 : decode cc_E_takeSuiteEnd 63 = .ok (.aload_n 0, 1) := by decide +kernel
theorem dd_E_takeSuiteEnd_64 : decode cc_E_takeSuiteEnd 64 = .ok (.getfield 15, 3) := by decide +kernel
theorem dd_E_takeSuiteEnd_67 : decode cc_E_takeSuiteEnd 67 = .ok (.aload_n 0, 1) := by decide +kernel
theorem dd_E_takeSuiteEnd_68 : decode cc_E_takeSuiteEnd 68 = .ok (.getfield 19, 3) := by decide +kernel
theorem dd_E_takeSuiteEnd_71 : decode cc_E_takeSuiteEnd 71 = .ok (.iload_n 1, 1) := by decide +kernel
theorem dd_E_takeSuiteEnd_72 : decode cc_E_takeSuiteEnd 72 = .ok (.invokevirtual 110, 3) := by decide +kernel
theorem dd_E_takeSuiteEnd_75 : decode cc_E_takeSuiteEnd 75 = .ok (.invokevirtual 74, 3) := by decide +kernel
theorem dd_E_takeSuiteEnd_78 : decode cc_E_takeSuiteEnd 78 = .ok (.ifCond .eq 38, 3) := by decide +kernel
theorem dd_E_takeSuiteEnd_81 : decode cc_E_takeSuiteEnd 81 = .ok (.aload_n 0, 1) := by decide +kernel
theorem dd_E_takeSuiteEnd_82 : decode cc_E_takeSuiteEnd 82 = .ok (.getfield 15, 3) := by decide +kernel
theorem dd_E_takeSuiteEnd_85 : decode cc_E_takeSuiteEnd 85 = .ok (.ldc 99, 2) := by decide +kernel
theorem dd_E_takeSuiteEnd_87 : decode cc_E_takeSuiteEnd 87 = .ok (.invokevirtual 45, 3) := by decide +kernel
theorem dd_E_takeSuiteEnd_90 : decode cc_E_takeSuiteEnd 90 = .ok (.ifCond .eq 26, 3) := by decide +kernel
theorem dd_E_takeSuiteEnd_93 : decode cc_E_takeSuiteEnd 93 = .ok (.aload_n 0, 1) := by decide +kernel
theorem dd_E_takeSuiteEnd_94 : decode cc_E_takeSuiteEnd 94 = .ok (.getfield 15, 3) := by decide +kernel
theorem dd_E_takeSuiteEnd_97 : decode cc_E_takeSuiteEnd 97 = .ok (.invokevirtual 79, 3) := by decide +kernel
theorem dd_E_takeSuiteEnd_100 : decode cc_E_takeSuiteEnd 100 = .ok (.aload_n 0, 1) := by decide +kernel
theorem dd_E_takeSuiteEnd_101 : decode cc_E_takeSuiteEnd 101 = .ok (.getfield 19, 3) := by decide +kernel
theorem dd_E_takeSuiteEnd_104 : decode cc_E_takeSuiteEnd 104 = .ok (.iload_n 1, 1) := by decide +kernel
theorem dd_E_takeSuiteEnd_105 : decode cc_E_takeSuiteEnd 105 = .ok (.invokevirtual 113, 3) := by decide +kernel
theorem dd_E_takeSuiteEnd_108 : decode cc_E_takeSuiteEnd 108 = .ok (.lcmp, 1) := by decide +kernel
theorem dd_E_takeSuiteEnd_109 : decode cc_E_takeSuiteEnd 109 = .ok (.ifCond .ne 7, 3) := by decide +kernel
theorem dd_E_takeSuiteEnd_112 : decode cc_E_takeSuiteEnd 112 = .ok (.iconst 1, 1) := by decide +kernel
theorem dd_E_takeSuiteEnd_113 : decode cc_E_takeSuiteEnd 113 = .ok (.goto 4, 3) := by decide +kernel
theorem dd_E_takeSuiteEnd_116 : decode cc_E_takeSuiteEnd 116 = .ok (.iconst 0, 1) := by decide +kernel
theorem dd_E_takeSuiteEnd_117 : decode cc_E_takeSuiteEnd 117 = .ok (.ireturn, 1) := by decide +kernel
theorem dd_W_writePlan_0 : decode cc_W_writePlan 0 = .ok (.aload_n 0, 1) := by decide +kernel
theorem dd_W_writePlan_1 : decode cc_W_writePlan 1 = .ok (.getfield 9, 3) := by decide +kernel
theorem dd_W_writePlan_4 : decode cc_W_writePlan 4 = .ok (.aload_n 0, 1) := by decide +kernel
theorem dd_W_writePlan_5 : decode cc_W_writePlan 5 = .ok (.getfield 15, 3) := by decide +kernel
theorem dd_W_writePlan_8 : decode cc_W_writePlan 8 = .ok (.iload_n 1, 1) := by decide +kernel
theorem dd_W_writePlan_9 : decode cc_W_writePlan 9 = .ok (.invokevirtual 73, 3) := by decide +kernel
theorem dd_W_writePlan_12 : decode cc_W_writePlan 12 = .ok (.invokevirtual 76, 3) := by decide +kernel
theorem dd_W_writePlan_15 : decode cc_W_writePlan 15 = .ok (.aload_n 0, 1) := by decide +kernel
theorem dd_W_writePlan_16 : decode cc_W_writePlan 16 = .ok (.getfield 9, 3) := by decide +kernel
theorem dd_W_writePlan_19 : decode cc_W_writePlan 19 = .ok (.ldc 79, 2) := by decide +kernel
theorem dd_W_writePlan_21 : decode cc_W_writePlan 21 = .ok (.invokevirtual 27, 3) := by decide +kernel
theorem dd_W_writePlan_24 : decode cc_W_writePlan 24 = .ok (.aload_n 0, 1) := by decide +kernel
theorem dd_W_writePlan_25 : decode cc_W_writePlan 25 = .ok (.getfield 9, 3) := by decide +kernel
theorem dd_W_writePlan_28 : decode cc_W_writePlan 28 = .ok (.aload_n 0, 1) := by decide +kernel
theorem dd_W_writePlan_29 : decode cc_W_writePlan 29 = .ok (.getfield 15, 3) := by decide +kernel
theorem dd_W_writePlan_32 : decode cc_W_writePlan 32 = .ok (.iload_n 1, 1) := by decide +kernel
theorem dd_W_writePlan_33 : decode cc_W_writePlan 33 = .ok (.invokevirtual 81, 3) := by decide +kernel
theorem dd_W_writePlan_36 : decode cc_W_writePlan 36 = .ok (.invokevirtual 84, 3) := by decide +kernel
theorem dd_W_writePlan_39 : decode cc_W_writePlan 39 = .ok (.aload_n 0, 1) := by decide +kernel
theorem dd_W_writePlan_40 : decode cc_W_writePlan 40 = .ok (.getfield 9, 3) := by decide +kernel
theorem dd_W_writePlan_43 : decode cc_W_writePlan 43 = .ok (.bipush 10, 2) := by decide +kernel
theorem dd_W_writePlan_45 : decode cc_W_writePlan 45 = .ok (.invokevirtual 31, 3) := by decide +kernel
theorem dd_W_writePlan_48 : decode cc_W_writePlan 48 = .ok (.pop, 1) := by decide +kernel
theorem dd_W_writePlan_49 : decode cc_W_writePlan 49 = .ok (.return_, 1) := by decide +kernel
theorem dd_W_writeVerdict_0 : decode cc_W_writeVerdict 0 = .ok (.aload_n 0, 1) := by decide +kernel
theorem dd_W_writeVerdict_1 : decode cc_W_writeVerdict 1 = .ok (.getfield 15, 3) := by decide +kernel
theorem dd_W_writeVerdict_4 : decode cc_W_writeVerdict 4 = .ok (.iload_n 1, 1) := by decide +kernel
theorem dd_W_writeVerdict_5 : decode cc_W_writeVerdict 5 = .ok (.invokevirtual 100, 3) := by decide +kernel
theorem dd_W_writeVerdict_8 : decode cc_W_writeVerdict 8 = .ok (.istore_n 2, 1) := by decide +kernel
theorem dd_W_writeVerdict_9 : decode cc_W_writeVerdict 9 = .ok (.aload_n 0, 1) := by decide +kernel
theorem dd_W_writeVerdict_10 : decode cc_W_writeVerdict 10 = .ok (.getfield 9, 3) := by decide +kernel
theorem dd_W_writeVerdict_13 : decode cc_W_writeVerdict 13 = .ok (.aload_n 0, 1) := by decide +kernel
theorem dd_W_writeVerdict_14 : decode cc_W_writeVerdict 14 = .ok (.getfield 15, 3) := by decide +kernel
theorem dd_W_writeVerdict_17 : decode cc_W_writeVerdict 17 = .ok (.iload_n 1, 1) := by decide +kernel
theorem dd_W_writeVerdict_18 : decode cc_W_writeVerdict 18 = .ok (.invokevirtual 87, 3) := by decide +kernel
theorem dd_W_writeVerdict_21 : decode cc_W_writeVerdict 21 = .ok (.invokevirtual 76, 3) := by decide +kernel
theorem dd_W_writeVerdict_24 : decode cc_W_writeVerdict 24 = .ok (.aload_n 0, 1) := by decide +kernel
theorem dd_W_writeVerdict_25 : decode cc_W_writeVerdict 25 = .ok (.getfield 9, 3) := by decide +kernel
theorem dd_W_writeVerdict_28 : decode cc_W_writeVerdict 28 = .ok (.iload_n 2, 1) := by decide +kernel
theorem dd_W_writeVerdict_29 : decode cc_W_writeVerdict 29 = .ok (.invokestatic 103, 3) := by decide +kernel
theorem dd_W_writeVerdict_32 : decode cc_W_writeVerdict 32 = .ok (.invokevirtual 27, 3) := by decide +kernel
theorem dd_W_writeVerdict_35 : decode cc_W_writeVerdict 35 = .ok (.aload_n 0, 1) := by decide +kernel
theorem dd_W_writeVerdict_36 : decode cc_W_writeVerdict 36 = .ok (.getfield 9, 3) := by decide +kernel
theorem dd_W_writeVerdict_39 : decode cc_W_writeVerdict 39 = .ok (.aload_n 0, 1) := by decide +kernel
theorem dd_W_writeVerdict_40 : decode cc_W_writeVerdict 40 = .ok (.getfield 15, 3) := by decide +kernel
theorem dd_W_writeVerdict_43 : decode cc_W_writeVerdict 43 = .ok (.iload_n 1, 1) := by decide +kernel
theorem dd_W_writeVerdict_44 : decode cc_W_writeVerdict 44 = .ok (.invokevirtual 107, 3) := by decide +kernel
theorem dd_W_writeVerdict_47 : decode cc_W_writeVerdict 47 = .ok (.invokevirtual 84, 3) := by decide +kernel
theorem dd_W_writeVerdict_50 : decode cc_W_writeVerdict 50 = .ok (.aload_n 0, 1) := by decide +kernel
theorem dd_W_writeVerdict_51 : decode cc_W_writeVerdict 51 = .ok (.getfield 9, 3) := by decide +kernel
theorem dd_W_writeVerdict_54 : decode cc_W_writeVerdict 54 = .ok (.ldc 110, 2) := by decide +kernel
theorem dd_W_writeVerdict_56 : decode cc_W_writeVerdict 56 = .ok (.invokevirtual 27, 3) := by decide +kernel
theorem dd_W_writeVerdict_59 : decode cc_W_writeVerdict 59 = .ok (.aload_n 0, 1) := by decide +kernel
theorem dd_W_writeVerdict_60 : decode cc_W_writeVerdict 60 = .ok (.getfield 9, 3) := by decide +kernel
theorem dd_W_writeVerdict_63 : decode cc_W_writeVerdict 63 = .ok (.aload_n 0, 1) := by decide +kernel
theorem dd_W_writeVerdict_64 : decode cc_W_writeVerdict 64 = .ok (.getfield 15, 3) := by decide +kernel
theorem dd_W_writeVerdict_67 : decode cc_W_writeVerdict 67 = .ok (.iload_n 1, 1) := by decide +kernel
theorem dd_W_writeVerdict_68 : decode cc_W_writeVerdict 68 = .ok (.invokevirtual 92, 3) := by decide +kernel
theorem dd_W_writeVerdict_71 : decode cc_W_writeVerdict 71 = .ok (.invokevirtual 96, 3) := by decide +kernel
theorem dd_W_writeVerdict_74 : decode cc_W_writeVerdict 74 = .ok (.aload_n 0, 1) := by decide +kernel
theorem dd_W_writeVerdict_75 : decode cc_W_writeVerdict 75 = .ok (.getfield 9, 3) := by decide +kernel
theorem dd_W_writeVerdict_78 : decode cc_W_writeVerdict 78 = .ok (.iload_n 2, 1) := by decide +kernel
theorem dd_W_writeVerdict_79 : decode cc_W_writeVerdict 79 = .ok (.invokestatic 112, 3) := by decide +kernel
theorem dd_W_writeVerdict_82 : decode cc_W_writeVerdict 82 = .ok (.invokevirtual 27, 3) := by decide +kernel
theorem dd_W_writeVerdict_85 : decode cc_W_writeVerdict 85 = .ok (.aload_n 0, 1) := by decide +kernel
theorem dd_W_writeVerdict_86 : decode cc_W_writeVerdict 86 = .ok (.getfield 9, 3) := by decide +kernel
theorem dd_W_writeVerdict_89 : decode cc_W_writeVerdict 89 = .ok (.bipush 10, 2) := by decide +kernel
theorem dd_W_writeVerdict_91 : decode cc_W_writeVerdict 91 = .ok (.invokevirtual 31, 3) := by decide +kernel
theorem dd_W_writeVerdict_94 : decode cc_W_writeVerdict 94 = .ok (.pop, 1) := by decide +kernel
theorem dd_W_writeVerdict_95 : decode cc_W_writeVerdict 95 = .ok (.return_, 1) := by decide +kernel
theorem dd_E_takeRowLine_0 : decode cc_E_takeRowLine 0 = .ok (.aload_n 0, 1) := by decide +kernel
theorem dd_E_takeRowLine_1 : decode cc_E_takeRowLine 1 = .ok (.getfield 19, 3) := by decide +kernel
theorem dd_E_takeRowLine_4 : decode cc_E_takeRowLine 4 = .ok (.invokevirtual 55, 3) := by decide +kernel
theorem dd_E_takeRowLine_7 : decode cc_E_takeRowLine 7 = .ok (.istore_n 1, 1) := by decide +kernel
theorem dd_E_takeRowLine_8 : decode cc_E_takeRowLine 8 = .ok (.iload_n 1, 1) := by decide +kernel
theorem dd_E_takeRowLine_9 : decode cc_E_takeRowLine 9 = .ok (.ifCond .le 22, 3) := by decide +kernel
theorem dd_E_takeRowLine_12 : decode cc_E_takeRowLine 12 = .ok (.aload_n 0, 1) := by decide +kernel
theorem dd_E_takeRowLine_13 : decode cc_E_takeRowLine 13 = .ok (.getfield 15, 3) := by decide +kernel
theorem dd_E_takeRowLine_16 : decode cc_E_takeRowLine 16 = .ok (.ldc 59, 2) := by decide +kernel
theorem dd_E_takeRowLine_18 : decode cc_E_takeRowLine 18 = .ok (.invokevirtual 45, 3) := by decide +kernel
theorem dd_E_takeRowLine_21 : decode cc_E_takeRowLine 21 = .ok (.ifCond .eq 10, 3) := by decide +kernel
theorem dd_E_takeRowLine_24 : decode cc_E_takeRowLine 24 = .ok (.aload_n 0, 1) := by decide +kernel
theorem dd_E_takeRowLine_25 : decode cc_E_takeRowLine 25 = .ok (.iconst 3, 1) := by decide +kernel
theorem dd_E_takeRowLine_26 : decode cc_E_takeRowLine 26 = .ok (.putfield 11, 3) := by decide +kernel
theorem dd_E_takeRowLine_29 : decode cc_E_takeRowLine 29 = .ok (.iconst 1, 1) := by decide +kernel
theorem dd_E_takeRowLine_30 : decode cc_E_takeRowLine 30 = .ok (.ireturn, 1) := by decide +kernel
theorem dd_E_takeRowLine_31 : decode cc_E_takeRowLine 31 = .ok (.aload_n 0, 1) := by decide +kernel
theorem dd_E_takeRowLine_32 : decode cc_E_takeRowLine 32 = .ok (.getfield 15, 3) := by decide +kernel
theorem dd_E_takeRowLine_35 : decode cc_E_takeRowLine 35 = .ok (.iload_n 1, 1) := by decide +kernel
theorem dd_E_takeRowLine_36 : decode cc_E_takeRowLine 36 = .ok (.invokevirtual 61, 3) := by decide +kernel
theorem dd_E_takeRowLine_39 : decode cc_E_takeRowLine 39 = .ok (.ifCond .ne 5, 3) := by decide +kernel
theorem dd_E_takeRowLine_42 : decode cc_E_takeRowLine 42 = .ok (.iconst 0, 1) := by decide +kernel
theorem dd_E_takeRowLine_43 : decode cc_E_takeRowLine 43 = .ok (.ireturn, 1) := by decide +kernel
theorem dd_E_takeRowLine_44 : decode cc_E_takeRowLine 44 = .ok (.aload_n 0, 1) := by decide +kernel
theorem dd_E_takeRowLine_45 : decode cc_E_takeRowLine 45 = .ok (.getfield 15, 3) := by decide +kernel
theorem dd_E_takeRowLine_48 : decode cc_E_takeRowLine 48 = .ok (.ldc 65, 2) := by decide +kernel
theorem dd_E_takeRowLine_50 : decode cc_E_takeRowLine 50 = .ok (.invokevirtual 45, 3) := by decide +kernel
theorem dd_E_takeRowLine_53 : decode cc_E_takeRowLine 53 = .ok (.ifCond .eq 38, 3) := by decide +kernel
theorem dd_E_takeRowLine_56 : decode cc_E_takeRowLine 56 = .ok (.aload_n 0, 1) := by decide +kernel
theorem dd_E_takeRowLine_57 : decode cc_E_takeRowLine 57 = .ok (.iload_n 1, 1) := by decide +kernel
theorem dd_E_takeRowLine_58 : decode cc_E_takeRowLine 58 = .ok (.ifCond .le 7, 3) := by decide +kernel
theorem dd_E_takeRowLine_61 : decode cc_E_takeRowLine 61 = .ok (.iconst 2, 1) := by decide +kernel
theorem dd_E_takeRowLine_62 : decode cc_E_takeRowLine 62 = .ok (.goto 4, 3) := by decide +kernel
theorem dd_E_takeRowLine_65 : decode cc_E_takeRowLine 65 = .ok (.iconst 3, 1) := by decide +kernel
theorem dd_E_takeRowLine_66 : decode cc_E_takeRowLine 66 = .ok (.putfield 11, 3) := by decide +kernel
theorem dd_E_takeRowLine_69 : decode cc_E_takeRowLine 69 = .ok (.aload_n 0, 1) := by decide +kernel
theorem dd_E_takeRowLine_70 : decode cc_E_takeRowLine 70 = .ok (.getfield 15, 3) := by decide +kernel
theorem dd_E_takeRowLine_73 : decode cc_E_takeRowLine 73 = .ok (.aload_n 0, 1) := by decide +kernel
theorem dd_E_takeRowLine_74 : decode cc_E_takeRowLine 74 = .ok (.getfield 19, 3) := by decide +kernel
theorem dd_E_takeRowLine_77 : decode cc_E_takeRowLine 77 = .ok (.aload_n 0, 1) := by decide +kernel
theorem dd_E_takeRowLine_78 : decode cc_E_takeRowLine 78 = .ok (.getfield 19, 3) := by decide +kernel
theorem dd_E_takeRowLine_81 : decode cc_E_takeRowLine 81 = .ok (.invokevirtual 67, 3) := by decide +kernel
theorem dd_E_takeRowLine_84 : decode cc_E_takeRowLine 84 = .ok (.invokevirtual 70, 3) := by decide +kernel
theorem dd_E_takeRowLine_87 : decode cc_E_takeRowLine 87 = .ok (.invokevirtual 74, 3) := by decide +kernel
theorem dd_E_takeRowLine_90 : decode cc_E_takeRowLine 90 = .ok (.ireturn, 1) := by decide +kernel
theorem dd_E_takeRowLine_91 : decode cc_E_takeRowLine 91 = .ok (.aload_n 0, 1) := by decide +kernel
theorem dd_E_takeRowLine_92 : decode cc_E_takeRowLine 92 = .ok (.getfield 15, 3) := by decide +kernel
theorem dd_E_takeRowLine_95 : decode cc_E_takeRowLine 95 = .ok (.ldc 77, 2) := by decide +kernel
theorem dd_E_takeRowLine_97 : decode cc_E_takeRowLine 97 = .ok (.invokevirtual 45, 3) := by decide +kernel
theorem dd_E_takeRowLine_100 : decode cc_E_takeRowLine 100 = .ok (.ifCond .eq 28, 3) := by decide +kernel
theorem dd_E_takeRowLine_103 : decode cc_E_takeRowLine 103 = .ok (.aload_n 0, 1) := by decide +kernel
theorem dd_E_takeRowLine_104 : decode cc_E_takeRowLine 104 = .ok (.getfield 19, 3) := by decide +kernel
theorem dd_E_takeRowLine_107 : decode cc_E_takeRowLine 107 = .ok (.bipush 6, 2) := by decide +kernel
theorem dd_E_takeRowLine_109 : decode cc_E_takeRowLine 109 = .ok (.aload_n 0, 1) := by decide +kernel
theorem dd_E_takeRowLine_110 : decode cc_E_takeRowLine 110 = .ok (.getfield 15, 3) := by decide +kernel
theorem dd_E_takeRowLine_113 : decode cc_E_takeRowLine 113 = .ok (.invokevirtual 79, 3) := by decide +kernel
theorem dd_E_takeRowLine_116 : decode cc_E_takeRowLine 116 = .ok (.invokevirtual 83, 3) := by decide +kernel
theorem dd_E_takeRowLine_119 : decode cc_E_takeRowLine 119 = .ok (.ifCond .lt 7, 3) := by decide +kernel
theorem dd_E_takeRowLine_122 : decode cc_E_takeRowLine 122 = .ok (.iconst 1, 1) := by decide +kernel
theorem dd_E_takeRowLine_123 : decode cc_E_takeRowLine 123 = .ok (.goto 4, 3) := by decide +kernel
theorem dd_E_takeRowLine_126 : decode cc_E_takeRowLine 126 = .ok (.iconst 0, 1) := by decide +kernel
theorem dd_E_takeRowLine_127 : decode cc_E_takeRowLine 127 = .ok (.ireturn, 1) := by decide +kernel
theorem dd_E_takeRowLine_128 : decode cc_E_takeRowLine 128 = .ok (.aload_n 0, 1) := by decide +kernel
theorem dd_E_takeRowLine_129 : decode cc_E_takeRowLine 129 = .ok (.getfield 15, 3) := by decide +kernel
theorem dd_E_takeRowLine_132 : decode cc_E_takeRowLine 132 = .ok (.ldc 87, 2) := by decide +kernel
theorem dd_E_takeRowLine_134 : decode cc_E_takeRowLine 134 = .ok (.invokevirtual 45, 3) := by decide +kernel
theorem dd_E_takeRowLine_137 : decode cc_E_takeRowLine 137 = .ok (.ifCond .eq 12, 3) := by decide +kernel
theorem dd_E_takeRowLine_140 : decode cc_E_takeRowLine 140 = .ok (.aload_n 0, 1) := by decide +kernel
theorem dd_E_takeRowLine_141 : decode cc_E_takeRowLine 141 = .ok (.iconst 0, 1) := by decide +kernel
theorem dd_E_takeRowLine_142 : decode cc_E_takeRowLine 142 = .ok (.ldc 89, 2) := by decide +kernel
theorem dd_E_takeRowLine_144 : decode cc_E_takeRowLine 144 = .ok (.iconst 2, 1) := by decide +kernel
theorem dd_E_takeRowLine_145 : decode cc_E_takeRowLine 145 = .ok (.invokevirtual 91, 3) := by decide +kernel
theorem dd_E_takeRowLine_148 : decode cc_E_takeRowLine 148 = .ok (.ireturn, 1) := by decide +kernel
theorem dd_E_takeRowLine_149 : decode cc_E_takeRowLine 149 = .ok (.aload_n 0, 1) := by decide +kernel
theorem dd_E_takeRowLine_150 : decode cc_E_takeRowLine 150 = .ok (.getfield 15, 3) := by decide +kernel
theorem dd_E_takeRowLine_153 : decode cc_E_takeRowLine 153 = .ok (.ldc 95, 2) := by decide +kernel
theorem dd_E_takeRowLine_155 : decode cc_E_takeRowLine 155 = .ok (.invokevirtual 45, 3) := by decide +kernel
theorem dd_E_takeRowLine_158 : decode cc_E_takeRowLine 158 = .ok (.ifCond .eq 18, 3) := by decide +kernel
theorem dd_E_takeRowLine_161 : decode cc_E_takeRowLine 161 = .ok (.aload_n 0, 1) := by decide +kernel
theorem dd_E_takeRowLine_162 : decode cc_E_takeRowLine 162 = .ok (.iconst 1, 1) := by decide +kernel
theorem dd_E_takeRowLine_163 : decode cc_E_takeRowLine 163 = .ok (.ldc 97, 2) := by decide +kernel
theorem dd_E_takeRowLine_165 : decode cc_E_takeRowLine 165 = .ok (.iconst 3, 1) := by decide +kernel
theorem dd_E_takeRowLine_166 : decode cc_E_takeRowLine 166 = .ok (.invokevirtual 91, 3) := by decide +kernel
theorem dd_E_takeRowLine_169 : decode cc_E_takeRowLine 169 = .ok (.ifCond .eq 7, 3) := by decide +kernel
theorem dd_E_takeRowLine_172 : decode cc_E_takeRowLine 172 = .ok (.iconst 1, 1) := by decide +kernel
theorem dd_E_takeRowLine_173 : decode cc_E_takeRowLine 173 = .ok (.goto 4, 3) := by decide +kernel
theorem dd_E_takeRowLine_176 : decode cc_E_takeRowLine 176 = .ok (.iconst 0, 1) := by decide +kernel
theorem dd_E_takeRowLine_177 : decode cc_E_takeRowLine 177 = .ok (.ireturn, 1) := by decide +kernel
theorem dd_W_endSuites_0 : decode cc_W_endSuites 0 = .ok (.iload_n 1, 1) := by decide +kernel
theorem dd_W_endSuites_1 : decode cc_W_endSuites 1 = .ok (.istore_n 3, 1) := by decide +kernel
theorem dd_W_endSuites_2 : decode cc_W_endSuites 2 = .ok (.iconst 0, 1) := by decide +kernel
theorem dd_W_endSuites_3 : decode cc_W_endSuites 3 = .ok (.istore 4, 2) := by decide +kernel
theorem dd_W_endSuites_5 : decode cc_W_endSuites 5 = .ok (.iload 4, 2) := by decide +kernel
theorem dd_W_endSuites_7 : decode cc_W_endSuites 7 = .ok (.iconst 3, 1) := by decide +kernel
theorem dd_W_endSuites_8 : decode cc_W_endSuites 8 = .ok (.if_icmp .ge 33, 3) := by decide +kernel
theorem dd_W_endSuites_11 : decode cc_W_endSuites 11 = .ok (.iload_n 3, 1) := by decide +kernel
theorem dd_W_endSuites_12 : decode cc_W_endSuites 12 = .ok (.iload_n 2, 1) := by decide +kernel
theorem dd_W_endSuites_13 : decode cc_W_endSuites 13 = .ok (.if_icmp .eq 28, 3) := by decide +kernel
theorem dd_W_endSuites_16 : decode cc_W_endSuites 16 = .ok (.aload_n 0, 1) := by decide +kernel
theorem dd_W_endSuites_17 : decode cc_W_endSuites 17 = .ok (.iload_n 3, 1) := by decide +kernel
theorem dd_W_endSuites_18 : decode cc_W_endSuites 18 = .ok (.invokevirtual 65, 3) := by decide +kernel
theorem dd_W_endSuites_21 : decode cc_W_endSuites 21 = .ok (.aload_n 0, 1) := by decide +kernel
theorem dd_W_endSuites_22 : decode cc_W_endSuites 22 = .ok (.iload_n 3, 1) := by decide +kernel
theorem dd_W_endSuites_23 : decode cc_W_endSuites 23 = .ok (.invokevirtual 52, 3) := by decide +kernel
theorem dd_W_endSuites_26 : decode cc_W_endSuites 26 = .ok (.aload_n 0, 1) := by decide +kernel
theorem dd_W_endSuites_27 : decode cc_W_endSuites 27 = .ok (.getfield 15, 3) := by decide +kernel
theorem dd_W_endSuites_30 : decode cc_W_endSuites 30 = .ok (.iload_n 3, 1) := by decide +kernel
theorem dd_W_endSuites_31 : decode cc_W_endSuites 31 = .ok (.invokevirtual 41, 3) := by decide +kernel
theorem dd_W_endSuites_34 : decode cc_W_endSuites 34 = .ok (.istore_n 3, 1) := by decide +kernel
theorem dd_W_endSuites_35 : decode cc_W_endSuites 35 = .ok (.iinc 4 1, 3) := by decide +kernel
theorem dd_W_endSuites_38 : decode cc_W_endSuites 38 = .ok (.goto (-33), 3) := by decide +kernel
theorem dd_W_endSuites_41 : decode cc_W_endSuites 41 = .ok (.return_, 1) := by decide +kernel
theorem dd_W_writeEnd_0 : decode cc_W_writeEnd 0 = .ok (.aload_n 0, 1) := by decide +kernel
theorem dd_W_writeEnd_1 : decode cc_W_writeEnd 1 = .ok (.getfield 15, 3) := by decide +kernel
theorem dd_W_writeEnd_4 : decode cc_W_writeEnd 4 = .ok (.invokevirtual 68, 3) := by decide +kernel
theorem dd_W_writeEnd_7 : decode cc_W_writeEnd 7 = .ok (.ifCond .ne 11, 3) := by decide +kernel
theorem dd_W_writeEnd_10 : decode cc_W_writeEnd 10 = .ok (.aload_n 0, 1) := by decide +kernel
theorem dd_W_writeEnd_11 : decode cc_W_writeEnd 11 = .ok (.iconst (-1), 1) := by decide +kernel
theorem dd_W_writeEnd_12 : decode cc_W_writeEnd 12 = .ok (.invokevirtual 65, 3) := by decide +kernel
theorem dd_W_writeEnd_15 : decode cc_W_writeEnd 15 = .ok (.goto 22, 3) := by decide +kernel
theorem dd_W_writeEnd_18 : decode cc_W_writeEnd 18 = .ok (.aload_n 0, 1) := by decide +kernel
theorem dd_W_writeEnd_19 : decode cc_W_writeEnd 19 = .ok (.getfield 9, 3) := by decide +kernel
theorem dd_W_writeEnd_22 : decode cc_W_writeEnd 22 = .ok (.ldc 71, 2) := by decide +kernel
theorem dd_W_writeEnd_24 : decode cc_W_writeEnd 24 = .ok (.invokevirtual 27, 3) := by decide +kernel
theorem dd_W_writeEnd_27 : decode cc_W_writeEnd 27 = .ok (.aload_n 0, 1) := by decide +kernel
theorem dd_W_writeEnd_28 : decode cc_W_writeEnd 28 = .ok (.getfield 9, 3) := by decide +kernel
theorem dd_W_writeEnd_31 : decode cc_W_writeEnd 31 = .ok (.bipush 10, 2) := by decide +kernel
theorem dd_W_writeEnd_33 : decode cc_W_writeEnd 33 = .ok (.invokevirtual 31, 3) := by decide +kernel
theorem dd_W_writeEnd_36 : decode cc_W_writeEnd 36 = .ok (.pop, 1) := by decide +kernel
theorem dd_W_writeEnd_37 : decode cc_W_writeEnd 37 = .ok (.return_, 1) := by decide +kernel
theorem dd_E_takeLine_0 : decode cc_E_takeLine 0 = .ok (.aload_n 0, 1) := by decide +kernel
theorem dd_E_takeLine_1 : decode cc_E_takeLine 1 = .ok (.getfield 11, 3) := by decide +kernel
theorem dd_E_takeLine_4 : decode cc_E_takeLine 4 = .ok (.tableswitch 58 0 2 #[28, 43, 48], 28) := by decide +kernel
theorem dd_E_takeLine_32 : decode cc_E_takeLine 32 = .ok (.aload_n 0, 1) := by decide +kernel
theorem dd_E_takeLine_33 : decode cc_E_takeLine 33 = .ok (.iconst 1, 1) := by decide +kernel
theorem dd_E_takeLine_34 : decode cc_E_takeLine 34 = .ok (.putfield 11, 3) := by decide +kernel
theorem dd_E_takeLine_37 : decode cc_E_takeLine 37 = .ok (.aload_n 0, 1) := by decide +kernel
theorem dd_E_takeLine_38 : decode cc_E_takeLine 38 = .ok (.getfield 15, 3) := by decide +kernel
theorem dd_E_takeLine_41 : decode cc_E_takeLine 41 = .ok (.ldc 43, 2) := by decide +kernel
theorem dd_E_takeLine_43 : decode cc_E_takeLine 43 = .ok (.invokevirtual 45, 3) := by decide +kernel
theorem dd_E_takeLine_46 : decode cc_E_takeLine 46 = .ok (.ireturn, 1) := by decide +kernel
theorem dd_E_takeLine_47 : decode cc_E_takeLine 47 = .ok (.aload_n 0, 1) := by decide +kernel
theorem dd_E_takeLine_48 : decode cc_E_takeLine 48 = .ok (.invokevirtual 49, 3) := by decide +kernel
theorem dd_E_takeLine_51 : decode cc_E_takeLine 51 = .ok (.ireturn, 1) := by decide +kernel
theorem dd_E_takeLine_52 : decode cc_E_takeLine 52 = .ok (.aload_n 0, 1) := by decide +kernel
theorem dd_E_takeLine_53 : decode cc_E_takeLine 53 = .ok (.iconst 1, 1) := by decide +kernel
theorem dd_E_takeLine_54 : decode cc_E_takeLine 54 = .ok (.putfield 11, 3) := by decide +kernel
theorem dd_E_takeLine_57 : decode cc_E_takeLine 57 = .ok (.aload_n 0, 1) := by decide +kernel
theorem dd_E_takeLine_58 : decode cc_E_takeLine 58 = .ok (.invokevirtual 52, 3) := by decide +kernel
theorem dd_E_takeLine_61 : decode cc_E_takeLine 61 = .ok (.ireturn, 1) := by decide +kernel
theorem dd_E_takeLine_62 : decode cc_E_takeLine 62 = .ok (.iconst 0, 1) := by decide +kernel
theorem dd_E_takeLine_63 : decode cc_E_takeLine 63 = .ok (.ireturn, 1) := by decide +kernel
theorem dd_W_writeAll_0 : decode cc_W_writeAll 0 = .ok (.aload_n 0, 1) := by decide +kernel
theorem dd_W_writeAll_1 : decode cc_W_writeAll 1 = .ok (.getfield 9, 3) := by decide +kernel
theorem dd_W_writeAll_4 : decode cc_W_writeAll 4 = .ok (.iconst 0, 1) := by decide +kernel
theorem dd_W_writeAll_5 : decode cc_W_writeAll 5 = .ok (.invokevirtual 19, 3) := by decide +kernel
theorem dd_W_writeAll_8 : decode cc_W_writeAll 8 = .ok (.pop, 1) := by decide +kernel
theorem dd_W_writeAll_9 : decode cc_W_writeAll 9 = .ok (.aload_n 0, 1) := by decide +kernel
theorem dd_W_writeAll_10 : decode cc_W_writeAll 10 = .ok (.getfield 9, 3) := by decide +kernel
theorem dd_W_writeAll_13 : decode cc_W_writeAll 13 = .ok (.ldc 25, 2) := by decide +kernel
theorem dd_W_writeAll_15 : decode cc_W_writeAll 15 = .ok (.invokevirtual 27, 3) := by decide +kernel
theorem dd_W_writeAll_18 : decode cc_W_writeAll 18 = .ok (.aload_n 0, 1) := by decide +kernel
theorem dd_W_writeAll_19 : decode cc_W_writeAll 19 = .ok (.getfield 9, 3) := by decide +kernel
theorem dd_W_writeAll_22 : decode cc_W_writeAll 22 = .ok (.bipush 10, 2) := by decide +kernel
theorem dd_W_writeAll_24 : decode cc_W_writeAll 24 = .ok (.invokevirtual 31, 3) := by decide +kernel
theorem dd_W_writeAll_27 : decode cc_W_writeAll 27 = .ok (.pop, 1) := by decide +kernel
theorem dd_W_writeAll_28 : decode cc_W_writeAll 28 = .ok (.iconst (-1), 1) := by decide +kernel
theorem dd_W_writeAll_29 : decode cc_W_writeAll 29 = .ok (.istore_n 1, 1) := by decide +kernel
theorem dd_W_writeAll_30 : decode cc_W_writeAll 30 = .ok (.iconst 0, 1) := by decide +kernel
theorem dd_W_writeAll_31 : decode cc_W_writeAll 31 = .ok (.istore_n 2, 1) := by decide +kernel
theorem dd_W_writeAll_32 : decode cc_W_writeAll 32 = .ok (.iload_n 2, 1) := by decide +kernel
theorem dd_W_writeAll_33 : decode cc_W_writeAll 33 = .ok (.aload_n 0, 1) := by decide +kernel
theorem dd_W_writeAll_34 : decode cc_W_writeAll 34 = .ok (.getfield 15, 3) := by decide +kernel
theorem dd_W_writeAll_37 : decode cc_W_writeAll 37 = .ok (.invokevirtual 35, 3) := by decide +kernel
theorem dd_W_writeAll_40 : decode cc_W_writeAll 40 = .ok (.if_icmp .ge 57, 3) := by decide +kernel
theorem dd_W_writeAll_43 : decode cc_W_writeAll 43 = .ok (.aload_n 0, 1) := by decide +kernel
theorem dd_W_writeAll_44 : decode cc_W_writeAll 44 = .ok (.iload_n 1, 1) := by decide +kernel
theorem dd_W_writeAll_45 : decode cc_W_writeAll 45 = .ok (.aload_n 0, 1) := by decide +kernel
theorem dd_W_writeAll_46 : decode cc_W_writeAll 46 = .ok (.getfield 15, 3) := by decide +kernel
theorem dd_W_writeAll_49 : decode cc_W_writeAll 49 = .ok (.iload_n 2, 1) := by decide +kernel
theorem dd_W_writeAll_50 : decode cc_W_writeAll 50 = .ok (.invokevirtual 41, 3) := by decide +kernel
theorem dd_W_writeAll_53 : decode cc_W_writeAll 53 = .ok (.invokevirtual 45, 3) := by decide +kernel
theorem dd_W_writeAll_56 : decode cc_W_writeAll 56 = .ok (.aload_n 0, 1) := by decide +kernel
theorem dd_W_writeAll_57 : decode cc_W_writeAll 57 = .ok (.getfield 15, 3) := by decide +kernel
theorem dd_W_writeAll_60 : decode cc_W_writeAll 60 = .ok (.iload_n 2, 1) := by decide +kernel
theorem dd_W_writeAll_61 : decode cc_W_writeAll 61 = .ok (.invokevirtual 49, 3) := by decide +kernel
theorem dd_W_writeAll_64 : decode cc_W_writeAll 64 = .ok (.ifCond .eq 20, 3) := by decide +kernel
theorem dd_W_writeAll_67 : decode cc_W_writeAll 67 = .ok (.aload_n 0, 1) := by decide +kernel
theorem dd_W_writeAll_68 : decode cc_W_writeAll 68 = .ok (.iload_n 2, 1) := by decide +kernel
theorem dd_W_writeAll_69 : decode cc_W_writeAll 69 = .ok (.invokevirtual 52, 3) := by decide +kernel
theorem dd_W_writeAll_72 : decode cc_W_writeAll 72 = .ok (.aload_n 0, 1) := by decide +kernel
theorem dd_W_writeAll_73 : decode cc_W_writeAll 73 = .ok (.getfield 15, 3) := by decide +kernel
theorem dd_W_writeAll_76 : decode cc_W_writeAll 76 = .ok (.iload_n 2, 1) := by decide +kernel
theorem dd_W_writeAll_77 : decode cc_W_writeAll 77 = .ok (.invokevirtual 41, 3) := by decide +kernel
theorem dd_W_writeAll_80 : decode cc_W_writeAll 80 = .ok (.istore_n 1, 1) := by decide +kernel
theorem dd_W_writeAll_81 : decode cc_W_writeAll 81 = .ok (.goto 10, 3) := by decide +kernel
theorem dd_W_writeAll_84 : decode cc_W_writeAll 84 = .ok (.aload_n 0, 1) := by decide +kernel
theorem dd_W_writeAll_85 : decode cc_W_writeAll 85 = .ok (.iload_n 2, 1) := by decide +kernel
theorem dd_W_writeAll_86 : decode cc_W_writeAll 86 = .ok (.invokevirtual 56, 3) := by decide +kernel
theorem dd_W_writeAll_89 : decode cc_W_writeAll 89 = .ok (.iload_n 2, 1) := by decide +kernel
theorem dd_W_writeAll_90 : decode cc_W_writeAll 90 = .ok (.istore_n 1, 1) := by decide +kernel
theorem dd_W_writeAll_91 : decode cc_W_writeAll 91 = .ok (.iinc 2 1, 3) := by decide +kernel
theorem dd_W_writeAll_94 : decode cc_W_writeAll 94 = .ok (.goto (-62), 3) := by decide +kernel
theorem dd_W_writeAll_97 : decode cc_W_writeAll 97 = .ok (.aload_n 0, 1) := by decide +kernel
theorem dd_W_writeAll_98 : decode cc_W_writeAll 98 = .ok (.iload_n 1, 1) := by decide +kernel
theorem dd_W_writeAll_99 : decode cc_W_writeAll 99 = .ok (.aload_n 0, 1) := by decide +kernel
theorem dd_W_writeAll_100 : decode cc_W_writeAll 100 = .ok (.getfield 15, 3) := by decide +kernel
theorem dd_W_writeAll_103 : decode cc_W_writeAll 103 = .ok (.invokevirtual 59, 3) := by decide +kernel
theorem dd_W_writeAll_106 : decode cc_W_writeAll 106 = .ok (.invokevirtual 45, 3) := by decide +kernel
theorem dd_W_writeAll_109 : decode cc_W_writeAll 109 = .ok (.aload_n 0, 1) := by decide +kernel
theorem dd_W_writeAll_110 : decode cc_W_writeAll 110 = .ok (.invokevirtual 62, 3) := by decide +kernel
theorem dd_W_writeAll_113 : decode cc_W_writeAll 113 = .ok (.return_, 1) := by decide +kernel
theorem dd_V_write_0 : decode cc_V_write 0 = .ok (.new 77, 3) := by decide +kernel
theorem dd_V_write_3 : decode cc_V_write 3 = .ok (.dup, 1) := by decide +kernel
theorem dd_V_write_4 : decode cc_V_write 4 = .ok (.aload_n 0, 1) := by decide +kernel
theorem dd_V_write_5 : decode cc_V_write 5 = .ok (.getfield 10, 3) := by decide +kernel
theorem dd_V_write_8 : decode cc_V_write 8 = .ok (.aload_n 0, 1) := by decide +kernel
theorem dd_V_write_9 : decode cc_V_write 9 = .ok (.getfield 19, 3) := by decide +kernel
theorem dd_V_write_12 : decode cc_V_write 12 = .ok (.invokespecial 79, 3) := by decide +kernel
theorem dd_V_write_15 : decode cc_V_write 15 = .ok (.invokevirtual 82, 3) := by decide +kernel
theorem dd_V_write_18 : decode cc_V_write 18 = .ok (.aload_n 0, 1) := by decide +kernel
theorem dd_V_write_19 : decode cc_V_write 19 = .ok (.getfield 10, 3) := by decide +kernel
theorem dd_V_write_22 : decode cc_V_write 22 = .ok (.invokevirtual 85, 3) := by decide +kernel
theorem dd_V_write_25 : decode cc_V_write 25 = .ok (.ireturn, 1) := by decide +kernel
theorem dd_E_readAll_0 : decode cc_E_readAll 0 = .ok (.aload_n 0, 1) := by decide +kernel
theorem dd_E_readAll_1 : decode cc_E_readAll 1 = .ok (.getfield 19, 3) := by decide +kernel
theorem dd_E_readAll_4 : decode cc_E_readAll 4 = .ok (.invokevirtual 23, 3) := by decide +kernel
theorem dd_E_readAll_7 : decode cc_E_readAll 7 = .ok (.iconst 1, 1) := by decide +kernel
theorem dd_E_readAll_8 : decode cc_E_readAll 8 = .ok (.istore_n 1, 1) := by decide +kernel
theorem dd_E_readAll_9 : decode cc_E_readAll 9 = .ok (.iload_n 1, 1) := by decide +kernel
theorem dd_E_readAll_10 : decode cc_E_readAll 10 = .ok (.sipush 3000, 3) := by decide +kernel
theorem dd_E_readAll_13 : decode cc_E_readAll 13 = .ok (.if_icmp .gt 49, 3) := by decide +kernel
theorem dd_E_readAll_16 : decode cc_E_readAll 16 = .ok (.aload_n 0, 1) := by decide +kernel
theorem dd_E_readAll_17 : decode cc_E_readAll 17 = .ok (.getfield 15, 3) := by decide +kernel
theorem dd_E_readAll_20 : decode cc_E_readAll 20 = .ok (.invokevirtual 28, 3) := by decide +kernel
theorem dd_E_readAll_23 : decode cc_E_readAll 23 = .ok (.ifCond .ne 39, 3) := by decide +kernel
theorem dd_E_readAll_26 : decode cc_E_readAll 26 = .ok (.aload_n 0, 1) := by decide +kernel
theorem dd_E_readAll_27 : decode cc_E_readAll 27 = .ok (.getfield 15, 3) := by decide +kernel
theorem dd_E_readAll_30 : decode cc_E_readAll 30 = .ok (.invokevirtual 34, 3) := by decide +kernel
theorem dd_E_readAll_33 : decode cc_E_readAll 33 = .ok (.ifCond .eq 20, 3) := by decide +kernel
theorem dd_E_readAll_36 : decode cc_E_readAll 36 = .ok (.aload_n 0, 1) := by decide +kernel
theorem dd_E_readAll_37 : decode cc_E_readAll 37 = .ok (.invokevirtual 37, 3) := by decide +kernel
theorem dd_E_readAll_40 : decode cc_E_readAll 40 = .ok (.ifCond .eq 13, 3) := by decide +kernel
theorem dd_E_readAll_43 : decode cc_E_readAll 43 = .ok (.aload_n 0, 1) := by decide +kernel
theorem dd_E_readAll_44 : decode cc_E_readAll 44 = .ok (.getfield 15, 3) := by decide +kernel
theorem dd_E_readAll_47 : decode cc_E_readAll 47 = .ok (.invokevirtual 40, 3) := by decide +kernel
theorem dd_E_readAll_50 : decode cc_E_readAll 50 = .ok (.ifCond .ne 6, 3) := by decide +kernel
theorem dd_E_readAll_53 : decode cc_E_readAll 53 = .ok (.iload_n 1, 1) := by decide +kernel
theorem dd_E_readAll_54 : decode cc_E_readAll 54 = .ok (.ineg, 1) := by decide +kernel
theorem dd_E_readAll_55 : decode cc_E_readAll 55 = .ok (.ireturn, 1) := by decide +kernel
theorem dd_E_readAll_56 : decode cc_E_readAll 56 = .ok (.iinc 1 1, 3) := by decide +kernel
theorem dd_E_readAll_59 : decode cc_E_readAll 59 = .ok (.goto (-50), 3) := by decide +kernel
theorem dd_E_readAll_62 : decode cc_E_readAll 62 = .ok (.aload_n 0, 1) := by decide +kernel
theorem dd_E_readAll_63 : decode cc_E_readAll 63 = .ok (.getfield 11, 3) := by decide +kernel
theorem dd_E_readAll_66 : decode cc_E_readAll 66 = .ok (.iconst 3, 1) := by decide +kernel
theorem dd_E_readAll_67 : decode cc_E_readAll 67 = .ok (.if_icmp .ne 7, 3) := by decide +kernel
theorem dd_E_readAll_70 : decode cc_E_readAll 70 = .ok (.iconst 0, 1) := by decide +kernel
theorem dd_E_readAll_71 : decode cc_E_readAll 71 = .ok (.goto 5, 3) := by decide +kernel
theorem dd_E_readAll_74 : decode cc_E_readAll 74 = .ok (.iload_n 1, 1) := by decide +kernel
theorem dd_E_readAll_75 : decode cc_E_readAll 75 = .ok (.ineg, 1) := by decide +kernel
theorem dd_E_readAll_76 : decode cc_E_readAll 76 = .ok (.ireturn, 1) := by decide +kernel
theorem dd_V_read_0 : decode cc_V_read 0 = .ok (.new 86, 3) := by decide +kernel
theorem dd_V_read_3 : decode cc_V_read 3 = .ok (.dup, 1) := by decide +kernel
theorem dd_V_read_4 : decode cc_V_read 4 = .ok (.aload_n 0, 1) := by decide +kernel
theorem dd_V_read_5 : decode cc_V_read 5 = .ok (.getfield 10, 3) := by decide +kernel
theorem dd_V_read_8 : decode cc_V_read 8 = .ok (.invokevirtual 88, 3) := by decide +kernel
theorem dd_V_read_11 : decode cc_V_read 11 = .ok (.aload_n 0, 1) := by decide +kernel
theorem dd_V_read_12 : decode cc_V_read 12 = .ok (.getfield 23, 3) := by decide +kernel
theorem dd_V_read_15 : decode cc_V_read 15 = .ok (.invokespecial 92, 3) := by decide +kernel
theorem dd_V_read_18 : decode cc_V_read 18 = .ok (.invokevirtual 95, 3) := by decide +kernel
theorem dd_V_read_21 : decode cc_V_read 21 = .ok (.istore_n 1, 1) := by decide +kernel
theorem dd_V_read_22 : decode cc_V_read 22 = .ok (.iload_n 1, 1) := by decide +kernel
theorem dd_V_read_23 : decode cc_V_read 23 = .ok (.ifCond .ne 21, 3) := by decide +kernel
theorem dd_V_read_26 : decode cc_V_read 26 = .ok (.aload_n 0, 1) := by decide +kernel
theorem dd_V_read_27 : decode cc_V_read 27 = .ok (.getfield 19, 3) := by decide +kernel
theorem dd_V_read_30 : decode cc_V_read 30 = .ok (.astore_n 2, 1) := by decide +kernel
theorem dd_V_read_31 : decode cc_V_read 31 = .ok (.aload_n 0, 1) := by decide +kernel
theorem dd_V_read_32 : decode cc_V_read 32 = .ok (.aload_n 0, 1) := by decide +kernel
theorem dd_V_read_33 : decode cc_V_read 33 = .ok (.getfield 23, 3) := by decide +kernel
theorem dd_V_read_36 : decode cc_V_read 36 = .ok (.putfield 19, 3) := by decide +kernel
theorem dd_V_read_39 : decode cc_V_read 39 = .ok (.aload_n 0, 1) := by decide +kernel
theorem dd_V_read_40 : decode cc_V_read 40 = .ok (.aload_n 2, 1) := by decide +kernel
theorem dd_V_read_41 : decode cc_V_read 41 = .ok (.putfield 23, 3) := by decide +kernel
theorem dd_V_read_44 : decode cc_V_read 44 = .ok (.iload_n 1, 1) := by decide +kernel
theorem dd_V_read_45 : decode cc_V_read 45 = .ok (.ireturn, 1) := by decide +kernel
end
section
abbrev tk_ (cI cL cC cZ : ClassId) : List (ClassId × FieldType) := [(cI, .int), (cL, .long), (cC, .char), (cZ, .boolean)]
abbrev mP_ (D : va_G) (tys : List (ClassId × FieldType)) (ws : va_W) (sz : Nat) (av : List Value) : Array Value → State → Prop := va_Pc av (fun U => U.heap.size = sz ∧ va_P D vwCl ws U.heap ∧ va_K D vwCl tys U ∧ va_D (fun _ => True) ws)
abbrev mB_ (D : va_G) (tys : List (ClassId × FieldType)) (w1 : va_W) (A : Nat → Prop) : Unit → State → Prop := fun _ t => va_P D vwCl w1 t.heap ∧ va_K D vwCl tys t ∧ va_D A w1
abbrev mU_ {S : Type} (D : va_G) (tys : List (ClassId × FieldType)) (w1 : S → va_W) (A : Nat → Prop) : S → State → Prop := fun u t => va_P D vwCl (w1 u) t.heap ∧ va_K D vwCl tys t ∧ va_D A (w1 u)
theorem jv_bl {D : va_G} {tys : List (ClassId × FieldType)} {ws : va_W} {sz : Nat} {av : List Value} : FrameBlind (mP_ D tys ws sz av) := fun a U g mk q => by
  obtain ⟨q0, q1, qP, qK, qD⟩ := q
  exact ⟨q0, q1, qP, va_K.moved (u := U) (U := U.calling g mk a) (Vm.Alike.refl U.vm) qK, qD⟩
section Jv
variable {p : Program} {l : Launch} {e : Env} {R : Room} {s : State} {m : MethodId} {args : Array Value} {below : List Frame} {meth : Method} {c : Code} {H : Heap} {locs : List Loc} {cells slots : Nat} {Q : State → Prop} {pc : Nat} {ls : Array Slot} {rest st0 : List Value} {a : Array Value}
theorem jv_pv {D : va_G} {tys : List (ClassId × FieldType)} {ws wc : va_W} {A : Nat → Prop} {C : String} {b : Nat} {As : List Value} (hK : va_K D vwCl tys s) (hP : va_P D vwCl ws H) (hD : va_D A ws) (is : List Nat) (h1 : is.filterMap (fun i => ws[i]?) = wc) (hn : va_nd is = true) (h2 : is.map (fun i => ws[i]?) = wc.map some)
    (hr : ∃ cell : Cell, H[b]? = some cell ∧ cell.vm.isStatics = false ∧ s.vm.findClass C = some cell.cls) : PreV s H C b (mP_ D tys wc H.size (Value.ref b :: As)) As :=
  ⟨jv_bl, hr, fun U hU hW => ⟨rfl, by rw [hU], by rw [hU]; exact hP.sub is h1, va_K.moved hW.alike hK, (hD.sub is hn h2).weaken (fun _ _ _ _ => trivial)⟩⟩
theorem jv_ps {D : va_G} {tys : List (ClassId × FieldType)} {ws wc : va_W} {A : Nat → Prop} {As : List Value} (hK : va_K D vwCl tys s) (hP : va_P D vwCl ws H) (hD : va_D A ws) (is : List Nat) (h1 : is.filterMap (fun i => ws[i]?) = wc) (hn : va_nd is = true) (h2 : is.map (fun i => ws[i]?) = wc.map some) : PreS s H (mP_ D tys wc H.size As) As :=
  ⟨jv_bl, fun U hU hW => ⟨rfl, by rw [hU], by rw [hU]; exact hP.sub is h1, va_K.moved hW.alike hK, (hD.sub is hn h2).weaken (fun _ _ _ _ => trivial)⟩⟩
theorem jv_ci {o : Int32} (hr : va_Run p l e R s m args below meth c H locs cells slots 0 0 (F0 m pc ls st0) rest (vp_Si (fun r => r = o) a) (fun _ => False))
    (kk : W p l e R s m args below meth c H locs cells slots Q (F0 m (pc + 3) ls (.int o :: rest))) : W p l e R s m args below meth c H locs cells slots Q (F0 m pc ls st0) :=
  vp_callSi hr.run (fun r er => by rw [show r = o from er]; exact kk)
theorem jv_cl {o : Int64} (hr : va_Run p l e R s m args below meth c H locs cells slots 0 0 (F0 m pc ls st0) rest (vp_Sl (fun r => r = o) a) (fun _ => False))
    (kk : W p l e R s m args below meth c H locs cells slots Q (F0 m (pc + 3) ls (.long o :: rest))) : W p l e R s m args below meth c H locs cells slots Q (F0 m pc ls st0) :=
  vp_callSl hr.run (fun r er => by rw [show r = o from er]; exact kk)
theorem jv_cv (hr : va_Run p l e R s m args below meth c H locs cells slots 0 0 (F0 m pc ls st0) rest (va_Sv (fun _ => True) a) (fun _ => False))
    (kk : W p l e R s m args below meth c H locs cells slots Q (F0 m (pc + 3) ls rest)) : W p l e R s m args below meth c H locs cells slots Q (F0 m pc ls st0) :=
  va_csv hr.run (fun _ => kk)
theorem jv_cs {o : Nat} {ad : Nat → Value} (hr : va_Run p l e R s m args below meth c H locs cells slots 0 0 (F0 m pc ls st0) rest (va_Sr (fun k => k = o) ad a) (fun _ => False))
    (kk : W p l e R s m args below meth c H locs cells slots Q (F0 m (pc + 3) ls (ad o :: rest))) : W p l e R s m args below meth c H locs cells slots Q (F0 m pc ls st0) :=
  va_csr hr.run (fun k er => by rw [show k = o from er]; exact kk)
variable {D : va_G} {tys : List (ClassId × FieldType)} {ws wc wr w1 : va_W} {A : Nat → Prop} {H0 : Heap} {mc ms : Nat}
theorem jv_mi {o : Int32} (hr : va_Run p l e R s m args below meth c H locs cells slots mc ms (F0 m pc ls st0) rest (va_Qi (fun r (_ : Unit) => r = o) (mB_ D tys w1 (va_A wc H.size)) (va_A wc H.size) a) (va_A wc H.size))
    (hP : va_P D vwCl ws H) (hD : va_D A ws) (hS : va_S A H0 H locs) (hA : ∀ q, H0.size ≤ q → A q) (isC isR : List Nat) (hC : isC.map (fun i => ws[i]?) = wc.map some) (hR : isR.map (fun i => ws[i]?) = wr.map some) (hn : va_nd isR = true) (hdis : ∀ i ∈ isR, i ∉ isC)
    (kk : ∀ (H1 : Heap) (locs1 : List Loc), va_P D vwCl (wr ++ w1) H1 → va_D A (wr ++ w1) → va_S A H0 H1 locs1 → W p l e R s m args below meth c H1 locs1 (cells + mc) (slots + ms) Q (F0 m (pc + 3) ls (.int o :: rest))) : W p l e R s m args below meth c H locs cells slots Q (F0 m pc ls st0) := by
  have hFc := va_free (wc := wc) hD hS hA isC hC
  refine va_calli hr hS (fun q _ h => hFc q h) hFc (fun r u t H1 locs1 ht hvm hw hB hz1 hk1 hS1 => ?_)
  obtain ⟨hP1, hK1, hD1⟩ := hB
  rw [ht] at hP1
  obtain ⟨hPj, hDj⟩ := va_join (wr := wr) (w1 := w1) hP hD isC isR hC hR hn hdis hk1 hFc hP1 hD1
  rw [show r = o from hw]
  exact kk H1 locs1 hPj hDj hS1
theorem jv_ml {o : Int64} (hr : va_Run p l e R s m args below meth c H locs cells slots mc ms (F0 m pc ls st0) rest (va_Ql (fun r (_ : Unit) => r = o) (mB_ D tys w1 (va_A wc H.size)) (va_A wc H.size) a) (va_A wc H.size))
    (hP : va_P D vwCl ws H) (hD : va_D A ws) (hS : va_S A H0 H locs) (hA : ∀ q, H0.size ≤ q → A q) (isC isR : List Nat) (hC : isC.map (fun i => ws[i]?) = wc.map some) (hR : isR.map (fun i => ws[i]?) = wr.map some) (hn : va_nd isR = true) (hdis : ∀ i ∈ isR, i ∉ isC)
    (kk : ∀ (H1 : Heap) (locs1 : List Loc), va_P D vwCl (wr ++ w1) H1 → va_D A (wr ++ w1) → va_S A H0 H1 locs1 → W p l e R s m args below meth c H1 locs1 (cells + mc) (slots + ms) Q (F0 m (pc + 3) ls (.long o :: rest))) : W p l e R s m args below meth c H locs cells slots Q (F0 m pc ls st0) := by
  have hFc := va_free (wc := wc) hD hS hA isC hC
  refine va_calll hr hS (fun q _ h => hFc q h) hFc (fun r u t H1 locs1 ht hvm hw hB hz1 hk1 hS1 => ?_)
  obtain ⟨hP1, hK1, hD1⟩ := hB
  rw [ht] at hP1
  obtain ⟨hPj, hDj⟩ := va_join (wr := wr) (w1 := w1) hP hD isC isR hC hR hn hdis hk1 hFc hP1 hD1
  rw [show r = o from hw]
  exact kk H1 locs1 hPj hDj hS1
theorem jv_mv (hr : va_Run p l e R s m args below meth c H locs cells slots mc ms (F0 m pc ls st0) rest (va_Qv (fun _ : Unit => True) (mB_ D tys w1 (va_A wc H.size)) (va_A wc H.size) a) (va_A wc H.size))
    (hP : va_P D vwCl ws H) (hD : va_D A ws) (hS : va_S A H0 H locs) (hA : ∀ q, H0.size ≤ q → A q) (isC isR : List Nat) (hC : isC.map (fun i => ws[i]?) = wc.map some) (hR : isR.map (fun i => ws[i]?) = wr.map some) (hn : va_nd isR = true) (hdis : ∀ i ∈ isR, i ∉ isC)
    (kk : ∀ (H1 : Heap) (locs1 : List Loc), va_P D vwCl (wr ++ w1) H1 → va_D A (wr ++ w1) → va_S A H0 H1 locs1 → W p l e R s m args below meth c H1 locs1 (cells + mc) (slots + ms) Q (F0 m (pc + 3) ls rest)) : W p l e R s m args below meth c H locs cells slots Q (F0 m pc ls st0) := by
  have hFc := va_free (wc := wc) hD hS hA isC hC
  refine va_callv hr hS (fun q _ h => hFc q h) hFc (fun u t H1 locs1 ht hvm hw hB hz1 hk1 hS1 => ?_)
  obtain ⟨hP1, hK1, hD1⟩ := hB
  rw [ht] at hP1
  obtain ⟨hPj, hDj⟩ := va_join (wr := wr) (w1 := w1) hP hD isC isR hC hR hn hdis hk1 hFc hP1 hD1
  exact kk H1 locs1 hPj hDj hS1
theorem jv_mu {S : Type} {wu : S → va_W} (hr : va_Run p l e R s m args below meth c H locs cells slots mc ms (F0 m pc ls st0) rest (va_Qv (fun _ : S => True) (mU_ D tys wu (va_A wc H.size)) (va_A wc H.size) a) (va_A wc H.size))
    (hP : va_P D vwCl ws H) (hD : va_D A ws) (hS : va_S A H0 H locs) (hA : ∀ q, H0.size ≤ q → A q) (isC isR : List Nat) (hC : isC.map (fun i => ws[i]?) = wc.map some) (hR : isR.map (fun i => ws[i]?) = wr.map some) (hn : va_nd isR = true) (hdis : ∀ i ∈ isR, i ∉ isC)
    (kk : ∀ (u : S) (H1 : Heap) (locs1 : List Loc), va_P D vwCl (wr ++ wu u) H1 → va_D A (wr ++ wu u) → va_S A H0 H1 locs1 → W p l e R s m args below meth c H1 locs1 (cells + mc) (slots + ms) Q (F0 m (pc + 3) ls rest)) : W p l e R s m args below meth c H locs cells slots Q (F0 m pc ls st0) := by
  have hFc := va_free (wc := wc) hD hS hA isC hC
  refine va_callv hr hS (fun q _ h => hFc q h) hFc (fun u t H1 locs1 ht hvm hw hB hz1 hk1 hS1 => ?_)
  obtain ⟨hP1, hK1, hD1⟩ := hB
  rw [ht] at hP1
  obtain ⟨hPj, hDj⟩ := va_join (wr := wr) (w1 := wu u) hP hD isC isR hC hR hn hdis hk1 hFc hP1 hD1
  exact kk u H1 locs1 hPj hDj hS1
theorem jv_mx {S : Type} {o : Int32} {wu : S → va_W} (hr : va_Run p l e R s m args below meth c H locs cells slots mc ms (F0 m pc ls st0) rest (va_Qi (fun r (_ : S) => r = o) (mU_ D tys wu (va_A wc H.size)) (va_A wc H.size) a) (va_A wc H.size))
    (hP : va_P D vwCl ws H) (hD : va_D A ws) (hS : va_S A H0 H locs) (hA : ∀ q, H0.size ≤ q → A q) (isC isR : List Nat) (hC : isC.map (fun i => ws[i]?) = wc.map some) (hR : isR.map (fun i => ws[i]?) = wr.map some) (hn : va_nd isR = true) (hdis : ∀ i ∈ isR, i ∉ isC)
    (kk : ∀ (u : S) (H1 : Heap) (locs1 : List Loc), va_P D vwCl (wr ++ wu u) H1 → va_D A (wr ++ wu u) → va_S A H0 H1 locs1 → W p l e R s m args below meth c H1 locs1 (cells + mc) (slots + ms) Q (F0 m (pc + 3) ls (.int o :: rest))) : W p l e R s m args below meth c H locs cells slots Q (F0 m pc ls st0) := by
  have hFc := va_free (wc := wc) hD hS hA isC hC
  refine va_calli hr hS (fun q _ h => hFc q h) hFc (fun r u t H1 locs1 ht hvm hw hB hz1 hk1 hS1 => ?_)
  obtain ⟨hP1, hK1, hD1⟩ := hB
  rw [ht] at hP1
  obtain ⟨hPj, hDj⟩ := va_join (wr := wr) (w1 := wu u) hP hD isC isR hC hR hn hdis hk1 hFc hP1 hD1
  rw [show r = o from hw]
  exact kk u H1 locs1 hPj hDj hS1
theorem jv_mr {wz : Nat → va_W} (hr : va_Run p l e R s m args below meth c H locs cells slots mc ms (F0 m pc ls st0) rest (va_Qr (fun _ : Unit => True) (fun (_ : Unit) (z : Nat) t => va_P D vwCl (wz z) t.heap ∧ va_K D vwCl tys t ∧ va_D (va_A wc H.size) (wz z)) (va_A wc H.size) a) (va_A wc H.size))
    (hP : va_P D vwCl ws H) (hD : va_D A ws) (hS : va_S A H0 H locs) (hA : ∀ q, H0.size ≤ q → A q) (isC isR : List Nat) (hC : isC.map (fun i => ws[i]?) = wc.map some) (hR : isR.map (fun i => ws[i]?) = wr.map some) (hn : va_nd isR = true) (hdis : ∀ i ∈ isR, i ∉ isC)
    (kk : ∀ (z : Nat) (H1 : Heap) (locs1 : List Loc), va_P D vwCl (wr ++ wz z) H1 → va_D A (wr ++ wz z) → va_S A H0 H1 locs1 → W p l e R s m args below meth c H1 locs1 (cells + mc) (slots + ms) Q (F0 m (pc + 3) ls (.ref z :: rest))) : W p l e R s m args below meth c H locs cells slots Q (F0 m pc ls st0) := by
  have hFc := va_free (wc := wc) hD hS hA isC hC
  refine va_callr hr hS (fun q _ h => hFc q h) hFc (fun u z t H1 locs1 ht hvm hw hB hz1 hk1 hS1 => ?_)
  obtain ⟨hP1, hK1, hD1⟩ := hB
  rw [ht] at hP1
  obtain ⟨hPj, hDj⟩ := va_join (wr := wr) (w1 := wz z) hP hD isC isR hC hR hn hdis hk1 hFc hP1 hD1
  exact kk z H1 locs1 hPj hDj hS1
theorem jv_nai {cc : ByteArray} {cI cL cC cZ : ClassId} (hexec : p.tables.exec = Jvm.exec) (hb : c.code = cc) (harr : (Cond.arrayClass .int).before args s = true) (hK : va_K D vwCl (tk_ cI cL cC cZ) s) (hP : va_P D vwCl ws H) (hD : va_D A ws) (hS : va_S A H0 H locs) (hA : ∀ q, H0.size ≤ q → A q)
    {n : Int32} {N' : Nat} {a0 : vp_A} (ha : ∀ cA : ClassId, vp_cell cA a0 = arrV cA N' (fun _ => defaultValue .int)) (hn : ¬ n < 0) (hN : n.toNatClampNeg = N') (hbytes : N' * componentBytes .int ≤ 536870912) (hcells : cells + 1 ≤ R.cells) (hslots : slots + N' ≤ R.slots) (hdg : decode cc pc = .ok (.newarray .int, 2))
    (kk : ∀ (q : Nat) (H1 : Heap), va_P D vwCl (ws ++ [(q, .inl (cI, a0))]) H1 → va_D A (ws ++ [(q, .inl (cI, a0))]) → va_S A H0 H1 locs →
      W p l e R s m args below meth c H1 locs (cells + 1) (slots + N') Q (F0 m (pc + 2) ls (.ref q :: rest))) : W p l e R s m args below meth c H locs cells slots Q (F0 m pc ls (.int n :: rest)) := by
  refine va_newa hexec hb (atype := .int) harr (ty := .int) rfl hK hP hD hS hA ha hn hN hbytes hcells hslots hdg (fun q cA H1 hK1 hP1 hD1 hS1 => ?_)
  have e1 := va_nm_int (hK1.2 0 (cI, .int) rfl).2
  have e2 := va_nm_int (hK1.2 4 (cA, .int) rfl).2
  rw [e1] at e2
  obtain rfl := Option.some.inj e2
  exact kk q H1 hP1 hD1 hS1
theorem jv_nal {cc : ByteArray} {cI cL cC cZ : ClassId} (hexec : p.tables.exec = Jvm.exec) (hb : c.code = cc) (harr : (Cond.arrayClass .long).before args s = true) (hK : va_K D vwCl (tk_ cI cL cC cZ) s) (hP : va_P D vwCl ws H) (hD : va_D A ws) (hS : va_S A H0 H locs) (hA : ∀ q, H0.size ≤ q → A q)
    {n : Int32} {N' : Nat} {a0 : vp_A} (ha : ∀ cA : ClassId, vp_cell cA a0 = arrV cA N' (fun _ => defaultValue .long)) (hn : ¬ n < 0) (hN : n.toNatClampNeg = N') (hbytes : N' * componentBytes .long ≤ 536870912) (hcells : cells + 1 ≤ R.cells) (hslots : slots + N' ≤ R.slots) (hdg : decode cc pc = .ok (.newarray .long, 2))
    (kk : ∀ (q : Nat) (H1 : Heap), va_P D vwCl (ws ++ [(q, .inl (cL, a0))]) H1 → va_D A (ws ++ [(q, .inl (cL, a0))]) → va_S A H0 H1 locs →
      W p l e R s m args below meth c H1 locs (cells + 1) (slots + N') Q (F0 m (pc + 2) ls (.ref q :: rest))) : W p l e R s m args below meth c H locs cells slots Q (F0 m pc ls (.int n :: rest)) := by
  refine va_newa hexec hb (atype := .long) harr (ty := .long) rfl hK hP hD hS hA ha hn hN hbytes hcells hslots hdg (fun q cA H1 hK1 hP1 hD1 hS1 => ?_)
  have e1 := va_nm_long (hK1.2 1 (cL, .long) rfl).2
  have e2 := va_nm_long (hK1.2 4 (cA, .long) rfl).2
  rw [e1] at e2
  obtain rfl := Option.some.inj e2
  exact kk q H1 hP1 hD1 hS1
theorem jv_nac {cc : ByteArray} {cI cL cC cZ : ClassId} (hexec : p.tables.exec = Jvm.exec) (hb : c.code = cc) (harr : (Cond.arrayClass .char).before args s = true) (hK : va_K D vwCl (tk_ cI cL cC cZ) s) (hP : va_P D vwCl ws H) (hD : va_D A ws) (hS : va_S A H0 H locs) (hA : ∀ q, H0.size ≤ q → A q)
    {n : Int32} {N' : Nat} {a0 : vp_A} (ha : ∀ cA : ClassId, vp_cell cA a0 = arrV cA N' (fun _ => defaultValue .char)) (hn : ¬ n < 0) (hN : n.toNatClampNeg = N') (hbytes : N' * componentBytes .char ≤ 536870912) (hcells : cells + 1 ≤ R.cells) (hslots : slots + N' ≤ R.slots) (hdg : decode cc pc = .ok (.newarray .char, 2))
    (kk : ∀ (q : Nat) (H1 : Heap), va_P D vwCl (ws ++ [(q, .inl (cC, a0))]) H1 → va_D A (ws ++ [(q, .inl (cC, a0))]) → va_S A H0 H1 locs →
      W p l e R s m args below meth c H1 locs (cells + 1) (slots + N') Q (F0 m (pc + 2) ls (.ref q :: rest))) : W p l e R s m args below meth c H locs cells slots Q (F0 m pc ls (.int n :: rest)) := by
  refine va_newa hexec hb (atype := .char) harr (ty := .char) rfl hK hP hD hS hA ha hn hN hbytes hcells hslots hdg (fun q cA H1 hK1 hP1 hD1 hS1 => ?_)
  have e1 := va_nm_char (hK1.2 2 (cC, .char) rfl).2
  have e2 := va_nm_char (hK1.2 4 (cA, .char) rfl).2
  rw [e1] at e2
  obtain rfl := Option.some.inj e2
  exact kk q H1 hP1 hD1 hS1
theorem jv_naz {cc : ByteArray} {cI cL cC cZ : ClassId} (hexec : p.tables.exec = Jvm.exec) (hb : c.code = cc) (harr : (Cond.arrayClass .boolean).before args s = true) (hK : va_K D vwCl (tk_ cI cL cC cZ) s) (hP : va_P D vwCl ws H) (hD : va_D A ws) (hS : va_S A H0 H locs) (hA : ∀ q, H0.size ≤ q → A q)
    {n : Int32} {N' : Nat} {a0 : vp_A} (ha : ∀ cA : ClassId, vp_cell cA a0 = arrV cA N' (fun _ => defaultValue .boolean)) (hn : ¬ n < 0) (hN : n.toNatClampNeg = N') (hbytes : N' * componentBytes .boolean ≤ 536870912) (hcells : cells + 1 ≤ R.cells) (hslots : slots + N' ≤ R.slots) (hdg : decode cc pc = .ok (.newarray .boolean, 2))
    (kk : ∀ (q : Nat) (H1 : Heap), va_P D vwCl (ws ++ [(q, .inl (cZ, a0))]) H1 → va_D A (ws ++ [(q, .inl (cZ, a0))]) → va_S A H0 H1 locs →
      W p l e R s m args below meth c H1 locs (cells + 1) (slots + N') Q (F0 m (pc + 2) ls (.ref q :: rest))) : W p l e R s m args below meth c H locs cells slots Q (F0 m pc ls (.int n :: rest)) := by
  refine va_newa hexec hb (atype := .boolean) harr (ty := .boolean) rfl hK hP hD hS hA ha hn hN hbytes hcells hslots hdg (fun q cA H1 hK1 hP1 hD1 hS1 => ?_)
  have e1 := va_nm_boolean (hK1.2 3 (cZ, .boolean) rfl).2
  have e2 := va_nm_boolean (hK1.2 4 (cA, .boolean) rfl).2
  rw [e1] at e2
  obtain rfl := Option.some.inj e2
  exact kk q H1 hP1 hD1 hS1
end Jv
end
section
/-! The String constants, and the JDK's own methods of them. -/
def st_len : List Nat := st_tx.map List.length
def st_byt : List (List Int32) := st_tx.map (fun l => l.map nI)
def st_l : List (String × Nat × String × Nat) := [(cn_C, 35, "    ", 1), (cn_E, 43, "TAP version 14", 0), (cn_E, 59, "Bail out\x21", 9), (cn_E, 65, "1..", 8), (cn_E, 77, "# Subtest: ", 2), (cn_E, 87, "ok ", 3), (cn_E, 89, " # SKIP", 6), (cn_E, 95, "not ok ", 4), (cn_E, 97, " # TODO", 7), (cn_E, 99, " - ", 5), (cn_P, 33, "    ", 1), (cn_W, 25, "TAP version 14", 0), (cn_W, 71, "Bail out\x21", 9), (cn_W, 79, "1..", 8), (cn_W, 90, "# Subtest: ", 2), (cn_W, 110, " - ", 5), (cn_W, 115, "not ok ", 4), (cn_W, 117, "ok ", 3), (cn_W, 119, " # SKIP", 6), (cn_W, 121, " # TODO", 7), (cn_W, 123, "", 10)]
def sK_ (adK adV : Nat → Nat) (A : Nat → Prop) (U : State) : Prop := va_Z "java/lang/String" "COMPACT_STRINGS" "Z" (.int 1) A U U.heap ∧ va_Zq "jdk/internal/util/Preconditions" "SIOOBE_FORMATTER" "Ljava/util/function/BiFunction;" A U U.heap ∧ vk_S 11 st_len st_byt adK adV A U U.heap ∧ ∀ q ∈ st_l, vk_R q.1 q.2.1 q.2.2.1 (adK q.2.2.2) U
theorem sk_R {adK adV : Nat → Nat} {A : Nat → Prop} {U : State} {k : Nat} {own tx : String} {ix j : Nat} (hV : sK_ adK adV A U) (h : st_l[k]? = some (own, ix, tx, j)) : vk_R own ix tx (adK j) U := hV.2.2.2 (own, ix, tx, j) (List.mem_of_getElem? h)
abbrev mS_ (adK adV : Nat → Nat) (D : va_G) (tys : List (ClassId × FieldType)) (ws : va_W) (sz : Nat) (av : List Value) : Array Value → State → Prop := va_Pc av (fun U => U.heap.size = sz ∧ va_P D vwCl ws U.heap ∧ va_K D vwCl tys U ∧ va_D (fun _ => True) ws ∧ sK_ adK adV (va_A ws sz) U)
theorem jv_sbl {adK adV : Nat → Nat} {D : va_G} {tys : List (ClassId × FieldType)} {ws : va_W} {sz : Nat} {av : List Value} : FrameBlind (mS_ adK adV D tys ws sz av) := fun a U g mk q => by
  obtain ⟨q0, q1, qP, qK, qD, z1, z2, z3, z4⟩ := q
  exact ⟨q0, q1, qP, va_K.moved (u := U) (U := U.calling g mk a) (Vm.Alike.refl U.vm) qK, qD, va_Z.moved (u := U) (U := U.calling g mk a) (Vm.Alike.refl U.vm) z1, va_Zq.moved (u := U) (U := U.calling g mk a) (Vm.Alike.refl U.vm) z2, vk_S.moved (u := U) (U := U.calling g mk a) (Vm.Alike.refl U.vm) z3, fun x hx => vk_R.same (u := U) (U := U.calling g mk a) rfl (z4 x hx)⟩
section Js
variable {s : State} {H : Heap} {locs : List Loc} {D : va_G} {tys : List (ClassId × FieldType)} {ws wc : va_W} {A : Nat → Prop} {adK adV : Nat → Nat}
theorem sK_go {B : Nat → Prop} {U : State} (hV : sK_ adK adV A s) (hS : va_S A s.heap H locs) (hAB : ∀ q, B q → A q) (hU : U.heap = H) (hW : s.WarmedH U.vm) : sK_ adK adV B U := by
  obtain ⟨z1, z2, z3, z4⟩ := hV
  refine ⟨?_, ?_, ?_, fun x hx => vk_R.warm hW (z4 x hx)⟩
  · rw [hU]
    exact va_Z.moved hW.alike ((z1.kept hS.2.1).narrow hAB)
  · rw [hU]
    exact va_Zq.moved hW.alike ((z2.kept hS.2.1).narrow hAB)
  · rw [hU]
    exact vk_S.moved hW.alike ((z3.kept hS.2.1).narrow hAB)
theorem jv_sv {C : String} {b : Nat} {As : List Value} (hK : va_K D vwCl tys s) (hP : va_P D vwCl ws H) (hD : va_D A ws) (hS : va_S A s.heap H locs) (hA : ∀ q, s.heap.size ≤ q → A q) (hV : sK_ adK adV A s) (is : List Nat) (h1 : is.filterMap (fun i => ws[i]?) = wc) (hn : va_nd is = true) (h2 : is.map (fun i => ws[i]?) = wc.map some)
    (hr : ∃ cell : Cell, H[b]? = some cell ∧ cell.vm.isStatics = false ∧ s.vm.findClass C = some cell.cls) : PreV s H C b (mS_ adK adV D tys wc H.size (Value.ref b :: As)) As :=
  ⟨jv_sbl, hr, fun U hU hW => ⟨rfl, by rw [hU], by rw [hU]; exact hP.sub is h1, va_K.moved hW.alike hK, (hD.sub is hn h2).weaken (fun _ _ _ _ => trivial), sK_go hV hS (va_free hD hS hA is h2) hU hW⟩⟩
theorem jv_ss {As : List Value} (hK : va_K D vwCl tys s) (hP : va_P D vwCl ws H) (hD : va_D A ws) (hS : va_S A s.heap H locs) (hA : ∀ q, s.heap.size ≤ q → A q) (hV : sK_ adK adV A s) (is : List Nat) (h1 : is.filterMap (fun i => ws[i]?) = wc) (hn : va_nd is = true) (h2 : is.map (fun i => ws[i]?) = wc.map some) : PreS s H (mS_ adK adV D tys wc H.size As) As :=
  ⟨jv_sbl, fun U hU hW => ⟨rfl, by rw [hU], by rw [hU]; exact hP.sub is h1, va_K.moved hW.alike hK, (hD.sub is hn h2).weaken (fun _ _ _ _ => trivial), sK_go hV hS (va_free hD hS hA is h2) hU hW⟩⟩
theorem sv_lt {i : Nat} {o : Int32} (h : fn_S_length i = some o) : i < 11 := by
  unfold fn_S_length at h
  by_cases e : i < 11
  · exact e
  · rw [if_neg e] at h; cases h
theorem sv_ct {i : Nat} {j o : Int32} (h : fn_S_charAt i j = some o) : i < 11 := by
  unfold fn_S_charAt at h
  by_cases e : i < 11
  · exact e
  · rw [if_neg e] at h; cases h
theorem sv_length {i : Nat} {o : Int32} (hV : sK_ adK adV A s) (h : fn_S_length i = some o) (hS : va_S A s.heap H locs) : ∃ cell : Cell, H[adK i]? = some cell ∧ cell.vm.isStatics = false ∧ s.vm.findClass "java/lang/String" = some cell.cls := vk_recv hV.2.2.1 (sv_lt h) hS
theorem sv_charAt {i : Nat} {j o : Int32} (hV : sK_ adK adV A s) (h : fn_S_charAt i j = some o) (hS : va_S A s.heap H locs) : ∃ cell : Cell, H[adK i]? = some cell ∧ cell.vm.isStatics = false ∧ s.vm.findClass "java/lang/String" = some cell.cls := vk_recv hV.2.2.1 (sv_ct h) hS
end Js
theorem sv_len : ∀ i, i < 11 → st_len.getD i 0 = (st_tx.getD i []).length := by decide +kernel
theorem sv_byt : ∀ i, i < 11 → ∀ j, j < 15 → (st_byt.getD i []).getD j 0 = nI ((st_tx.getD i []).getD j 0) ∧ (st_tx.getD i []).getD j 0 < 128 := by decide +kernel
theorem sv_l14 : ∀ i, i < 11 → (st_tx.getD i []).length ≤ 14 := by decide +kernel
theorem sv_asc : ∀ c, c < 128 → ((nI c &&& 255).toUInt32 % 65536).toInt32 = nI c := by decide +kernel
theorem dj_coder_0 : decode prog_10_method_152_code 0 = .ok (.getstatic 38, 3) := by decide +kernel
theorem dj_coder_3 : decode prog_10_method_152_code 3 = .ok (.ifCond .eq 10, 3) := by decide +kernel
theorem dj_coder_6 : decode prog_10_method_152_code 6 = .ok (.aload_n 0, 1) := by decide +kernel
theorem dj_coder_7 : decode prog_10_method_152_code 7 = .ok (.getfield 15, 3) := by decide +kernel
theorem dj_coder_10 : decode prog_10_method_152_code 10 = .ok (.goto 4, 3) := by decide +kernel
theorem dj_coder_14 : decode prog_10_method_152_code 14 = .ok (.ireturn, 1) := by decide +kernel
theorem dj_lat_0 : decode prog_10_method_154_code 0 = .ok (.getstatic 38, 3) := by decide +kernel
theorem dj_lat_3 : decode prog_10_method_154_code 3 = .ok (.ifCond .eq 14, 3) := by decide +kernel
theorem dj_lat_6 : decode prog_10_method_154_code 6 = .ok (.aload_n 0, 1) := by decide +kernel
theorem dj_lat_7 : decode prog_10_method_154_code 7 = .ok (.getfield 15, 3) := by decide +kernel
theorem dj_lat_10 : decode prog_10_method_154_code 10 = .ok (.ifCond .ne 7, 3) := by decide +kernel
theorem dj_lat_13 : decode prog_10_method_154_code 13 = .ok (.iconst 1, 1) := by decide +kernel
theorem dj_lat_14 : decode prog_10_method_154_code 14 = .ok (.goto 4, 3) := by decide +kernel
theorem dj_lat_18 : decode prog_10_method_154_code 18 = .ok (.ireturn, 1) := by decide +kernel
theorem dj_len_0 : decode prog_10_method_54_code 0 = .ok (.aload_n 0, 1) := by decide +kernel
theorem dj_len_1 : decode prog_10_method_54_code 1 = .ok (.getfield 9, 3) := by decide +kernel
theorem dj_len_4 : decode prog_10_method_54_code 4 = .ok (.arraylength, 1) := by decide +kernel
theorem dj_len_5 : decode prog_10_method_54_code 5 = .ok (.aload_n 0, 1) := by decide +kernel
theorem dj_len_6 : decode prog_10_method_54_code 6 = .ok (.invokevirtual 335, 3) := by decide +kernel
theorem dj_len_9 : decode prog_10_method_54_code 9 = .ok (.ishr, 1) := by decide +kernel
theorem dj_len_10 : decode prog_10_method_54_code 10 = .ok (.ireturn, 1) := by decide +kernel
theorem dj_at_0 : decode prog_10_method_56_code 0 = .ok (.aload_n 0, 1) := by decide +kernel
theorem dj_at_1 : decode prog_10_method_56_code 1 = .ok (.invokevirtual 492, 3) := by decide +kernel
theorem dj_at_4 : decode prog_10_method_56_code 4 = .ok (.ifCond .eq 12, 3) := by decide +kernel
theorem dj_at_7 : decode prog_10_method_56_code 7 = .ok (.aload_n 0, 1) := by decide +kernel
theorem dj_at_8 : decode prog_10_method_56_code 8 = .ok (.getfield 9, 3) := by decide +kernel
theorem dj_at_11 : decode prog_10_method_56_code 11 = .ok (.iload_n 1, 1) := by decide +kernel
theorem dj_at_12 : decode prog_10_method_56_code 12 = .ok (.invokestatic 495, 3) := by decide +kernel
theorem dj_at_15 : decode prog_10_method_56_code 15 = .ok (.ireturn, 1) := by decide +kernel
theorem dj_ci_0 : decode prog_10_method_155_code 0 = .ok (.iload_n 0, 1) := by decide +kernel
theorem dj_ci_1 : decode prog_10_method_155_code 1 = .ok (.iload_n 1, 1) := by decide +kernel
theorem dj_ci_2 : decode prog_10_method_155_code 2 = .ok (.getstatic 1053, 3) := by decide +kernel
theorem dj_ci_5 : decode prog_10_method_155_code 5 = .ok (.invokestatic 1059, 3) := by decide +kernel
theorem dj_ci_8 : decode prog_10_method_155_code 8 = .ok (.pop, 1) := by decide +kernel
theorem dj_ci_9 : decode prog_10_method_155_code 9 = .ok (.return_, 1) := by decide +kernel
theorem dj_l1_0 : decode prog_11_method_2_code 0 = .ok (.iload_n 1, 1) := by decide +kernel
theorem dj_l1_1 : decode prog_11_method_2_code 1 = .ok (.aload_n 0, 1) := by decide +kernel
theorem dj_l1_2 : decode prog_11_method_2_code 2 = .ok (.arraylength, 1) := by decide +kernel
theorem dj_l1_3 : decode prog_11_method_2_code 3 = .ok (.invokestatic 9, 3) := by decide +kernel
theorem dj_l1_6 : decode prog_11_method_2_code 6 = .ok (.aload_n 0, 1) := by decide +kernel
theorem dj_l1_7 : decode prog_11_method_2_code 7 = .ok (.iload_n 1, 1) := by decide +kernel
theorem dj_l1_8 : decode prog_11_method_2_code 8 = .ok (.baload, 1) := by decide +kernel
theorem dj_l1_9 : decode prog_11_method_2_code 9 = .ok (.sipush 255, 3) := by decide +kernel
theorem dj_l1_12 : decode prog_11_method_2_code 12 = .ok (.iand, 1) := by decide +kernel
theorem dj_l1_13 : decode prog_11_method_2_code 13 = .ok (.i2c, 1) := by decide +kernel
theorem dj_l1_14 : decode prog_11_method_2_code 14 = .ok (.ireturn, 1) := by decide +kernel
theorem dj_pc_0 : decode prog_13_method_11_code 0 = .ok (.iload_n 0, 1) := by decide +kernel
theorem dj_pc_1 : decode prog_13_method_11_code 1 = .ok (.ifCond .lt 8, 3) := by decide +kernel
theorem dj_pc_4 : decode prog_13_method_11_code 4 = .ok (.iload_n 0, 1) := by decide +kernel
theorem dj_pc_5 : decode prog_13_method_11_code 5 = .ok (.iload_n 1, 1) := by decide +kernel
theorem dj_pc_6 : decode prog_13_method_11_code 6 = .ok (.if_icmp .lt 10, 3) := by decide +kernel
theorem dj_pc_16 : decode prog_13_method_11_code 16 = .ok (.iload_n 0, 1) := by decide +kernel
theorem dj_pc_17 : decode prog_13_method_11_code 17 = .ok (.ireturn, 1) := by decide +kernel
set_option maxHeartbeats 4000000 in
set_option maxRecDepth 100000 in
theorem c_J_coder (l : Launch) (dC : Nat → ClassId) (dI : Nat → Nat → Nat) (cI cL cC cZ : ClassId) (adK adV : Nat → Nat) (sz : Nat) (i : Nat) (hi : i < 11) : Met l (⟨"java/lang/String", "coder", "()B"⟩ : MethodName) (.code (⟨"java/lang/String", "coder", "()B"⟩ : MethodName) prog_10_method_152_code 1 (some .byte) :: TB_) { frames := 0, cells := 0, slots := 0, locals := 0 } (mS_ adK adV (dC, dI) (tk_ cI cL cC cZ) [] sz [.ref (adK i)]) (vp_Si (fun r => r = 0)) 0 0 (fun _ => False) := by
  refine Met.ofW (cc := prog_10_method_152_code) (maxL := 1) (ret := (some .byte)) (by decide) rfl ?_
  intro p e s m args below meth c s₁ B hml hv
  obtain ⟨hargs, hsz, hP, hK, hD0, hV⟩ := hv
  have hx := B.exec
  have hb := B.bytes
  have hr := B.returns
  have hts := atoms_spec (ws := (.code (⟨"java/lang/String", "coder", "()B"⟩ : MethodName) prog_10_method_152_code 1 (some .byte) :: TB_)) B.pre
  have ht : ∀ w ∈ TB_, w.before args s = true := fun w h => hts w (List.mem_cons_of_mem _ h)
  have hown : s.vm.findClass "java/lang/String" = some m.cls := findClass_of_methodNamed B.named
  have hlocks := B.notSynchronized
  subst hsz
  have hD := hD0.self (sz := s.heap.size)
  generalize hAe : va_A [] s.heap.size = A at hD hV
  have hA : ∀ q : Nat, s.heap.size ≤ q → A q := fun q h => by rw [← hAe]; exact Or.inr h
  have hS : va_S A s.heap s.heap [] := va_S.rf
  have hP : va_P (dC, dI) vwCl [] s.heap := hP
  have hl := lv_entry [.ref (adK i)] (n := 1) (Nat.le_of_ble_eq_true rfl)
  have he : entryFrame m args 1 = _ := (congrArg (fun a => entryFrame m a 1) hargs).trans (lg_entry_eq m [.ref (adK i)] 1)
  rw [he]
  generalize (lg_sl [.ref (adK i)] ++ List.replicate (1 - (lg_sl [.ref (adK i)]).length) Slot.unset).toArray = ls at hl ⊢
  have hl : lv_has ls 1 [(0, .ref (adK i))] := hl
  refine va_gets hx hb hV.1 hS hown (ht _ tw_1_206) (fun _ h9 => h9) dj_coder_0 ?_
  refine lv_if_eq (tgt := 13) hx hb dj_coder_3 (by decide) (fun c1 => absurd c1 (by decide)) (fun _ => ?_)
  refine lv_aload_n hx hb dj_coder_6 rfl (lv_at hl 0 rfl) ?_
  refine vk_getf hx hb (hV.2.2.1.1 i hi).2.1 hS hown (ht _ tw_4_77) (fun _ h9 => h9) dj_coder_7 ?_
  refine lv_goto (tgt := 14) hx hb dj_coder_10 (by decide) ?_
  exact W.zret (v := 0) hx hb hr rfl (fun t ht hW => ⟨0, rfl, rfl, ht⟩) (fun _ h => by cases h) dj_coder_14
set_option maxHeartbeats 4000000 in
set_option maxRecDepth 100000 in
theorem c_J_lat (l : Launch) (dC : Nat → ClassId) (dI : Nat → Nat → Nat) (cI cL cC cZ : ClassId) (adK adV : Nat → Nat) (sz : Nat) (i : Nat) (hi : i < 11) : Met l (⟨"java/lang/String", "isLatin1", "()Z"⟩ : MethodName) (.code (⟨"java/lang/String", "isLatin1", "()Z"⟩ : MethodName) prog_10_method_154_code 1 (some .boolean) :: TB_) { frames := 0, cells := 0, slots := 0, locals := 0 } (mS_ adK adV (dC, dI) (tk_ cI cL cC cZ) [] sz [.ref (adK i)]) (vp_Si (fun r => r = 1)) 0 0 (fun _ => False) := by
  refine Met.ofW (cc := prog_10_method_154_code) (maxL := 1) (ret := (some .boolean)) (by decide) rfl ?_
  intro p e s m args below meth c s₁ B hml hv
  obtain ⟨hargs, hsz, hP, hK, hD0, hV⟩ := hv
  have hx := B.exec
  have hb := B.bytes
  have hr := B.returns
  have hts := atoms_spec (ws := (.code (⟨"java/lang/String", "isLatin1", "()Z"⟩ : MethodName) prog_10_method_154_code 1 (some .boolean) :: TB_)) B.pre
  have ht : ∀ w ∈ TB_, w.before args s = true := fun w h => hts w (List.mem_cons_of_mem _ h)
  have hown : s.vm.findClass "java/lang/String" = some m.cls := findClass_of_methodNamed B.named
  have hlocks := B.notSynchronized
  subst hsz
  have hD := hD0.self (sz := s.heap.size)
  generalize hAe : va_A [] s.heap.size = A at hD hV
  have hA : ∀ q : Nat, s.heap.size ≤ q → A q := fun q h => by rw [← hAe]; exact Or.inr h
  have hS : va_S A s.heap s.heap [] := va_S.rf
  have hP : va_P (dC, dI) vwCl [] s.heap := hP
  have hl := lv_entry [.ref (adK i)] (n := 1) (Nat.le_of_ble_eq_true rfl)
  have he : entryFrame m args 1 = _ := (congrArg (fun a => entryFrame m a 1) hargs).trans (lg_entry_eq m [.ref (adK i)] 1)
  rw [he]
  generalize (lg_sl [.ref (adK i)] ++ List.replicate (1 - (lg_sl [.ref (adK i)]).length) Slot.unset).toArray = ls at hl ⊢
  have hl : lv_has ls 1 [(0, .ref (adK i))] := hl
  refine va_gets hx hb hV.1 hS hown (ht _ tw_1_206) (fun _ h9 => h9) dj_lat_0 ?_
  refine lv_if_eq (tgt := 17) hx hb dj_lat_3 (by decide) (fun c1 => absurd c1 (by decide)) (fun _ => ?_)
  refine lv_aload_n hx hb dj_lat_6 rfl (lv_at hl 0 rfl) ?_
  refine vk_getf hx hb (hV.2.2.1.1 i hi).2.1 hS hown (ht _ tw_4_77) (fun _ h9 => h9) dj_lat_7 ?_
  refine lv_if_ne (tgt := 17) hx hb dj_lat_10 (by decide) (fun c1 => absurd rfl c1) (fun _ => ?_)
  refine lv_iconst (v := 1) hx hb dj_lat_13 (by decide) ?_
  refine lv_goto (tgt := 18) hx hb dj_lat_14 (by decide) ?_
  exact W.zret (v := 1) hx hb hr rfl (fun t ht hW => ⟨1, rfl, rfl, ht⟩) (fun _ h => by cases h) dj_lat_18
set_option maxHeartbeats 4000000 in
set_option maxRecDepth 100000 in
theorem c_J_pc (l : Launch) (dC : Nat → ClassId) (dI : Nat → Nat → Nat) (cI cL cC cZ : ClassId) (sz : Nat) (x n : Int32) (r : Option Nat) (h0 : ¬ x < 0) (h1 : x < n) : Met l (⟨"jdk/internal/util/Preconditions", "checkIndex", "(IILjava/util/function/BiFunction;)I"⟩ : MethodName) (.code (⟨"jdk/internal/util/Preconditions", "checkIndex", "(IILjava/util/function/BiFunction;)I"⟩ : MethodName) prog_13_method_11_code 3 (some .int) :: TB_) { frames := 0, cells := 0, slots := 0, locals := 0 } (mP_ (dC, dI) (tk_ cI cL cC cZ) [] sz [.int x, .int n, va_rf r]) (vp_Si (fun r => r = x)) 0 0 (fun _ => False) := by
  rcases r with _ | r
  · refine Met.ofW (cc := prog_13_method_11_code) (maxL := 3) (ret := (some .int)) (by decide) rfl ?_
    intro p e s m args below meth c s₁ B hml hv
    obtain ⟨hargs, hsz, hP, hK, hD0⟩ := hv
    have hx := B.exec
    have hb := B.bytes
    have hr := B.returns
    have hts := atoms_spec (ws := (.code (⟨"jdk/internal/util/Preconditions", "checkIndex", "(IILjava/util/function/BiFunction;)I"⟩ : MethodName) prog_13_method_11_code 3 (some .int) :: TB_)) B.pre
    have ht : ∀ w ∈ TB_, w.before args s = true := fun w h => hts w (List.mem_cons_of_mem _ h)
    have hown : s.vm.findClass "jdk/internal/util/Preconditions" = some m.cls := findClass_of_methodNamed B.named
    have hlocks := B.notSynchronized
    subst hsz
    have hD := hD0.self (sz := s.heap.size)
    generalize hAe : va_A [] s.heap.size = A at hD
    have hA : ∀ q : Nat, s.heap.size ≤ q → A q := fun q h => by rw [← hAe]; exact Or.inr h
    have hS : va_S A s.heap s.heap [] := va_S.rf
    have hP : va_P (dC, dI) vwCl [] s.heap := hP
    have hl := lv_entry [.int x, .int n, .null] (n := 3) (Nat.le_of_ble_eq_true rfl)
    have he : entryFrame m args 3 = _ := (congrArg (fun a => entryFrame m a 3) hargs).trans (lg_entry_eq m [.int x, .int n, .null] 3)
    rw [he]
    generalize (lg_sl [.int x, .int n, .null] ++ List.replicate (3 - (lg_sl [.int x, .int n, .null]).length) Slot.unset).toArray = ls at hl ⊢
    have hl : lv_has ls 3 [(0, .int x), (1, .int n), (2, .null)] := hl
    refine lv_iload_n hx hb dj_pc_0 rfl (lv_at hl 0 rfl) ?_
    refine lv_if_lt (tgt := 9) hx hb dj_pc_1 (by decide) (fun c1 => absurd c1 h0) (fun _ => ?_)
    refine lv_iload_n hx hb dj_pc_4 rfl (lv_at hl 0 rfl) ?_
    refine lv_iload_n hx hb dj_pc_5 rfl (lv_at hl 1 rfl) ?_
    refine lv_icmp_lt (tgt := 16) hx hb dj_pc_6 (by decide) (fun _ => ?_) (fun c1 => absurd h1 c1)
    refine lv_iload_n hx hb dj_pc_16 rfl (lv_at hl 0 rfl) ?_
    exact W.iret (v := x) hx hb hr (fun t ht hW => ⟨x, rfl, rfl, ht⟩) (fun _ h => by cases h) dj_pc_17
  · refine Met.ofW (cc := prog_13_method_11_code) (maxL := 3) (ret := (some .int)) (by decide) rfl ?_
    intro p e s m args below meth c s₁ B hml hv
    obtain ⟨hargs, hsz, hP, hK, hD0⟩ := hv
    have hx := B.exec
    have hb := B.bytes
    have hr := B.returns
    have hts := atoms_spec (ws := (.code (⟨"jdk/internal/util/Preconditions", "checkIndex", "(IILjava/util/function/BiFunction;)I"⟩ : MethodName) prog_13_method_11_code 3 (some .int) :: TB_)) B.pre
    have ht : ∀ w ∈ TB_, w.before args s = true := fun w h => hts w (List.mem_cons_of_mem _ h)
    have hown : s.vm.findClass "jdk/internal/util/Preconditions" = some m.cls := findClass_of_methodNamed B.named
    have hlocks := B.notSynchronized
    subst hsz
    have hD := hD0.self (sz := s.heap.size)
    generalize hAe : va_A [] s.heap.size = A at hD
    have hA : ∀ q : Nat, s.heap.size ≤ q → A q := fun q h => by rw [← hAe]; exact Or.inr h
    have hS : va_S A s.heap s.heap [] := va_S.rf
    have hP : va_P (dC, dI) vwCl [] s.heap := hP
    have hl := lv_entry [.int x, .int n, .ref r] (n := 3) (Nat.le_of_ble_eq_true rfl)
    have he : entryFrame m args 3 = _ := (congrArg (fun a => entryFrame m a 3) hargs).trans (lg_entry_eq m [.int x, .int n, .ref r] 3)
    rw [he]
    generalize (lg_sl [.int x, .int n, .ref r] ++ List.replicate (3 - (lg_sl [.int x, .int n, .ref r]).length) Slot.unset).toArray = ls at hl ⊢
    have hl : lv_has ls 3 [(0, .int x), (1, .int n), (2, .ref r)] := hl
    refine lv_iload_n hx hb dj_pc_0 rfl (lv_at hl 0 rfl) ?_
    refine lv_if_lt (tgt := 9) hx hb dj_pc_1 (by decide) (fun c1 => absurd c1 h0) (fun _ => ?_)
    refine lv_iload_n hx hb dj_pc_4 rfl (lv_at hl 0 rfl) ?_
    refine lv_iload_n hx hb dj_pc_5 rfl (lv_at hl 1 rfl) ?_
    refine lv_icmp_lt (tgt := 16) hx hb dj_pc_6 (by decide) (fun _ => ?_) (fun c1 => absurd h1 c1)
    refine lv_iload_n hx hb dj_pc_16 rfl (lv_at hl 0 rfl) ?_
    exact W.iret (v := x) hx hb hr (fun t ht hW => ⟨x, rfl, rfl, ht⟩) (fun _ h => by cases h) dj_pc_17
set_option maxHeartbeats 4000000 in
set_option maxRecDepth 100000 in
theorem c_J_ci (l : Launch) (dC : Nat → ClassId) (dI : Nat → Nat → Nat) (cI cL cC cZ : ClassId) (adK adV : Nat → Nat) (sz : Nat) (x n : Int32) (h0 : ¬ x < 0) (h1 : x < n) : Met l (⟨"java/lang/String", "checkIndex", "(II)V"⟩ : MethodName) (.code (⟨"java/lang/String", "checkIndex", "(II)V"⟩ : MethodName) prog_10_method_155_code 2 none :: TB_) { frames := 1, cells := 0, slots := 0, locals := 22 } (mS_ adK adV (dC, dI) (tk_ cI cL cC cZ) [] sz [.int x, .int n]) (va_Sv (fun _ => True)) 0 0 (fun _ => False) := by
  refine Met.ofW (cc := prog_10_method_155_code) (maxL := 2) (ret := none) (by decide) rfl ?_
  intro p e s m args below meth c s₁ B hml hv
  obtain ⟨hargs, hsz, hP, hK, hD0, hV⟩ := hv
  have hx := B.exec
  have hb := B.bytes
  have hr := B.returns
  have hts := atoms_spec (ws := (.code (⟨"java/lang/String", "checkIndex", "(II)V"⟩ : MethodName) prog_10_method_155_code 2 none :: TB_)) B.pre
  have ht : ∀ w ∈ TB_, w.before args s = true := fun w h => hts w (List.mem_cons_of_mem _ h)
  have hown : s.vm.findClass "java/lang/String" = some m.cls := findClass_of_methodNamed B.named
  have hlocks := B.notSynchronized
  subst hsz
  have hD := hD0.self (sz := s.heap.size)
  generalize hAe : va_A [] s.heap.size = A at hD hV
  have hA : ∀ q : Nat, s.heap.size ≤ q → A q := fun q h => by rw [← hAe]; exact Or.inr h
  have hS : va_S A s.heap s.heap [] := va_S.rf
  have hP : va_P (dC, dI) vwCl [] s.heap := hP
  have hl := lv_entry [.int x, .int n] (n := 2) (Nat.le_of_ble_eq_true rfl)
  have he : entryFrame m args 2 = _ := (congrArg (fun a => entryFrame m a 2) hargs).trans (lg_entry_eq m [.int x, .int n] 2)
  rw [he]
  generalize (lg_sl [.int x, .int n] ++ List.replicate (2 - (lg_sl [.int x, .int n]).length) Slot.unset).toArray = ls at hl ⊢
  have hl : lv_has ls 2 [(0, .int x), (1, .int n)] := hl
  obtain ⟨r, hZ⟩ : ∃ r : Option Nat, va_Z "jdk/internal/util/Preconditions" "SIOOBE_FORMATTER" "Ljava/util/function/BiFunction;" (va_rf r) A s s.heap := by
    rcases hV.2.1 with h | ⟨q, h⟩
    · exact ⟨none, h⟩
    · exact ⟨some q, h⟩
  refine lv_iload_n hx hb dj_ci_0 rfl (lv_at hl 0 rfl) ?_
  refine lv_iload_n hx hb dj_ci_1 rfl (lv_at hl 1 rfl) ?_
  refine va_gets hx hb hZ hS hown (ht _ tw_1_222) (fun _ h9 => h9) dj_ci_2 ?_
  refine jv_ci (va_runS (As := [.int x, .int n, va_rf r]) (rest := []) ⟨hx, hb, hml, hown, ht⟩ (c_J_pc l dC dI cI cL cC cZ s.heap.size x n r h0 h1) (va_cwS 3 ht (gi_S tw_1_224 tw_1_225 tw_1_9 tw_1_226) rfl rfl rfl (by decide +kernel) ⟨Nat.le_of_ble_eq_true rfl, Nat.le_of_ble_eq_true rfl⟩) (jv_ps hK hP hD [] rfl (by decide) rfl) rfl rfl hl.1 rfl (lv_room (Nat.le_of_ble_eq_true rfl)) dj_ci_5 ⟨Nat.le_of_ble_eq_true rfl, Nat.le_of_ble_eq_true rfl⟩) ?_
  refine lv_pop hx hb dj_ci_8 rfl ?_
  exact W.vret hx hb hr (fun t ht hW => ⟨rfl, trivial, ht⟩) (fun _ h => by cases h) dj_ci_9
set_option maxHeartbeats 4000000 in
set_option maxRecDepth 100000 in
theorem c_J_l1 (l : Launch) (dC : Nat → ClassId) (dI : Nat → Nat → Nat) (cI cL cC cZ : ClassId) (adK adV : Nat → Nat) (sz : Nat) (i : Nat) (x : Int32) (hi : i < 11) (hx0 : vp_in x (st_tx.getD i []).length) : Met l (⟨"java/lang/StringLatin1", "charAt", "([BI)C"⟩ : MethodName) (.code (⟨"java/lang/StringLatin1", "charAt", "([BI)C"⟩ : MethodName) prog_11_method_2_code 2 (some .char) :: TB_) { frames := 2, cells := 0, slots := 0, locals := 43 } (mS_ adK adV (dC, dI) (tk_ cI cL cC cZ) [] sz [.ref (adV i), .int x]) (vp_Si (fun r => r = nI ((st_tx.getD i []).getD x.toNatClampNeg 0))) 0 0 (fun _ => False) := by
  refine Met.ofW (cc := prog_11_method_2_code) (maxL := 2) (ret := (some .char)) (by decide) rfl ?_
  intro p e s m args below meth c s₁ B hml hv
  obtain ⟨hargs, hsz, hP, hK, hD0, hV⟩ := hv
  have hx := B.exec
  have hb := B.bytes
  have hr := B.returns
  have hts := atoms_spec (ws := (.code (⟨"java/lang/StringLatin1", "charAt", "([BI)C"⟩ : MethodName) prog_11_method_2_code 2 (some .char) :: TB_)) B.pre
  have ht : ∀ w ∈ TB_, w.before args s = true := fun w h => hts w (List.mem_cons_of_mem _ h)
  have hown : s.vm.findClass "java/lang/StringLatin1" = some m.cls := findClass_of_methodNamed B.named
  have hlocks := B.notSynchronized
  subst hsz
  have hD := hD0.self (sz := s.heap.size)
  generalize hAe : va_A [] s.heap.size = A at hD hV
  have hA : ∀ q : Nat, s.heap.size ≤ q → A q := fun q h => by rw [← hAe]; exact Or.inr h
  have hS : va_S A s.heap s.heap [] := va_S.rf
  have hP : va_P (dC, dI) vwCl [] s.heap := hP
  have hl := lv_entry [.ref (adV i), .int x] (n := 2) (Nat.le_of_ble_eq_true rfl)
  have he : entryFrame m args 2 = _ := (congrArg (fun a => entryFrame m a 2) hargs).trans (lg_entry_eq m [.ref (adV i), .int x] 2)
  rw [he]
  generalize (lg_sl [.ref (adV i), .int x] ++ List.replicate (2 - (lg_sl [.ref (adV i), .int x]).length) Slot.unset).toArray = ls at hl ⊢
  have hl : lv_has ls 2 [(0, .ref (adV i)), (1, .int x)] := hl
  have hT := (hV.2.2.1.1 i hi).2.2.2
  rw [sv_len i hi] at hT
  obtain ⟨j, hj, ej⟩ := vp_in_of hx0 (by have := sv_l14 i hi; omega)
  have h14 := sv_l14 i hi
  refine lv_iload_n hx hb dj_l1_0 rfl (lv_at hl 1 rfl) ?_
  refine lv_aload_n hx hb dj_l1_1 rfl (lv_at hl 0 rfl) ?_
  refine va_tlen hx hb hT hS rfl dj_l1_2 ?_
  refine jv_cv (va_runS (As := [.int x, .int (Int32.ofNat (st_tx.getD i []).length)]) (rest := []) ⟨hx, hb, hml, hown, ht⟩ (c_J_ci l dC dI cI cL cC cZ adK adV s.heap.size x (Int32.ofNat (st_tx.getD i []).length) (by rw [ej]; exact nI_pos (by omega)) (by rw [ej]; exact nI_lt hj (by omega))) (va_cwS 2 ht (gi_S tw_1_219 tw_1_220 tw_1_7 tw_1_221) rfl rfl rfl (by decide +kernel) ⟨Nat.le_of_ble_eq_true rfl, Nat.le_of_ble_eq_true rfl⟩) (jv_ss hK hP hD hS hA hV [] rfl (by decide) rfl) rfl rfl hl.1 rfl (lv_room (Nat.le_of_ble_eq_true rfl)) dj_l1_3 ⟨Nat.le_of_ble_eq_true rfl, Nat.le_of_ble_eq_true rfl⟩) ?_
  refine lv_aload_n hx hb dj_l1_6 rfl (lv_at hl 0 rfl) ?_
  refine lv_iload_n hx hb dj_l1_7 rfl (lv_at hl 1 rfl) ?_
  refine va_tb hx hb hT hS hx0 rfl dj_l1_8 ?_
  refine lv_sipush (v := 255) hx hb dj_l1_9 (by decide) ?_
  refine lv_iand hx hb dj_l1_12 ?_
  refine lv_i2c hx hb dj_l1_13 rfl ?_
  have ec : x.toNatClampNeg = j := by rw [ej]; exact nI_clamp (by omega)
  have eb := sv_byt i hi j (by omega)
  have ev : (((st_byt.getD i []).getD x.toNatClampNeg 0 &&& 255).toUInt32 % 65536).toInt32 = nI ((st_tx.getD i []).getD x.toNatClampNeg 0) := by rw [ec, eb.1]; exact sv_asc _ eb.2
  exact W.zret (v := (((st_byt.getD i []).getD x.toNatClampNeg 0 &&& 255).toUInt32 % 65536).toInt32) hx hb hr (pk_nc _) (fun t ht hW => ⟨_, rfl, ev, ht⟩) (fun _ h => by cases h) dj_l1_14
set_option maxHeartbeats 4000000 in
set_option maxRecDepth 100000 in
theorem c_S_charAt (l : Launch) (dC : Nat → ClassId) (dI : Nat → Nat → Nat) (cI cL cC cZ : ClassId) (adK adV : Nat → Nat) (sz : Nat) (i : Nat) (x : Int32) (out : Int32) (hF : fn_S_charAt i x = some out) : Met l (⟨"java/lang/String", "charAt", "(I)C"⟩ : MethodName) (.code (⟨"java/lang/String", "charAt", "(I)C"⟩ : MethodName) prog_10_method_56_code 2 (some .char) :: TB_) { frames := 3, cells := 0, slots := 0, locals := 64 } (mS_ adK adV (dC, dI) (tk_ cI cL cC cZ) [] sz [.ref (adK i), .int x]) (vp_Si (fun r => r = out)) 0 0 (fun _ => False) := by
  refine Met.ofW (cc := prog_10_method_56_code) (maxL := 2) (ret := (some .char)) (by decide) rfl ?_
  intro p e s m args below meth c s₁ B hml hv
  obtain ⟨hargs, hsz, hP, hK, hD0, hV⟩ := hv
  have hx := B.exec
  have hb := B.bytes
  have hr := B.returns
  have hts := atoms_spec (ws := (.code (⟨"java/lang/String", "charAt", "(I)C"⟩ : MethodName) prog_10_method_56_code 2 (some .char) :: TB_)) B.pre
  have ht : ∀ w ∈ TB_, w.before args s = true := fun w h => hts w (List.mem_cons_of_mem _ h)
  have hown : s.vm.findClass "java/lang/String" = some m.cls := findClass_of_methodNamed B.named
  have hlocks := B.notSynchronized
  subst hsz
  have hD := hD0.self (sz := s.heap.size)
  generalize hAe : va_A [] s.heap.size = A at hD hV
  have hA : ∀ q : Nat, s.heap.size ≤ q → A q := fun q h => by rw [← hAe]; exact Or.inr h
  have hS : va_S A s.heap s.heap [] := va_S.rf
  have hP : va_P (dC, dI) vwCl [] s.heap := hP
  have hl := lv_entry [.ref (adK i), .int x] (n := 2) (Nat.le_of_ble_eq_true rfl)
  have he : entryFrame m args 2 = _ := (congrArg (fun a => entryFrame m a 2) hargs).trans (lg_entry_eq m [.ref (adK i), .int x] 2)
  rw [he]
  generalize (lg_sl [.ref (adK i), .int x] ++ List.replicate (2 - (lg_sl [.ref (adK i), .int x]).length) Slot.unset).toArray = ls at hl ⊢
  have hl : lv_has ls 2 [(0, .ref (adK i)), (1, .int x)] := hl
  have hi := sv_ct hF
  unfold fn_S_charAt at hF
  rw [if_pos hi] at hF
  obtain ⟨g1, hF⟩ := jv_gi hF
  have eo := Option.some.inj hF
  refine lv_aload_n hx hb dj_at_0 rfl (lv_at hl 0 rfl) ?_
  refine jv_ci (va_runV (C := "java/lang/String") (As := []) (rest := []) ⟨hx, hb, hml, hown, ht⟩ (c_J_lat l dC dI cI cL cC cZ adK adV s.heap.size i hi) (cwV 0 ht (gi_V tw_1_212 tw_1_213 tw_1_214 tw_1_7 tw_1_215) rfl rfl rfl (by decide +kernel) ⟨Nat.le_of_ble_eq_true rfl, Nat.le_of_ble_eq_true rfl⟩) (jv_sv hK hP hD hS hA hV [] rfl (by decide) rfl (vk_recv hV.2.2.1 hi hS)) rfl rfl hl.1 rfl (lv_room (Nat.le_of_ble_eq_true rfl)) dj_at_1 ⟨Nat.le_of_ble_eq_true rfl, Nat.le_of_ble_eq_true rfl⟩) ?_
  refine lv_if_eq (tgt := 16) hx hb dj_at_4 (by decide) (fun c1 => absurd c1 (by decide)) (fun _ => ?_)
  refine lv_aload_n hx hb dj_at_7 rfl (lv_at hl 0 rfl) ?_
  refine vk_getf hx hb (hV.2.2.1.1 i hi).2.2.1 hS hown (ht _ tw_4_76) (fun _ h9 => h9) dj_at_8 ?_
  refine lv_iload_n hx hb dj_at_11 rfl (lv_at hl 1 rfl) ?_
  refine jv_ci (va_runS (As := [.ref (adV i), .int x]) (rest := []) ⟨hx, hb, hml, hown, ht⟩ (c_J_l1 l dC dI cI cL cC cZ adK adV s.heap.size i x hi (jv_in g1)) (va_cwS 2 ht (gi_S tw_1_216 tw_1_217 tw_1_8 tw_1_218) rfl rfl rfl (by decide +kernel) ⟨Nat.le_of_ble_eq_true rfl, Nat.le_of_ble_eq_true rfl⟩) (jv_ss hK hP hD hS hA hV [] rfl (by decide) rfl) rfl rfl hl.1 rfl (lv_room (Nat.le_of_ble_eq_true rfl)) dj_at_12 ⟨Nat.le_of_ble_eq_true rfl, Nat.le_of_ble_eq_true rfl⟩) ?_
  exact W.zret (v := nI ((st_tx.getD i []).getD x.toNatClampNeg 0)) hx hb hr (pk_charN (by have := sv_l14 i hi; obtain ⟨j, hj, ej⟩ := vp_in_of (jv_in g1) (by omega); rw [ej, nI_clamp (by omega)]; have := (sv_byt i hi j (by omega)).2; omega)).1 (fun t ht hW => ⟨_, rfl, eo, ht⟩) (fun _ h => by cases h) dj_at_15
set_option maxHeartbeats 4000000 in
set_option maxRecDepth 100000 in
theorem c_S_length (l : Launch) (dC : Nat → ClassId) (dI : Nat → Nat → Nat) (cI cL cC cZ : ClassId) (adK adV : Nat → Nat) (sz : Nat) (i : Nat) (out : Int32) (hF : fn_S_length i = some out) : Met l (⟨"java/lang/String", "length", "()I"⟩ : MethodName) (.code (⟨"java/lang/String", "length", "()I"⟩ : MethodName) prog_10_method_54_code 1 (some .int) :: TB_) { frames := 1, cells := 0, slots := 0, locals := 20 } (mS_ adK adV (dC, dI) (tk_ cI cL cC cZ) [] sz [.ref (adK i)]) (vp_Si (fun r => r = out)) 0 0 (fun _ => False) := by
  refine Met.ofW (cc := prog_10_method_54_code) (maxL := 1) (ret := (some .int)) (by decide) rfl ?_
  intro p e s m args below meth c s₁ B hml hv
  obtain ⟨hargs, hsz, hP, hK, hD0, hV⟩ := hv
  have hx := B.exec
  have hb := B.bytes
  have hr := B.returns
  have hts := atoms_spec (ws := (.code (⟨"java/lang/String", "length", "()I"⟩ : MethodName) prog_10_method_54_code 1 (some .int) :: TB_)) B.pre
  have ht : ∀ w ∈ TB_, w.before args s = true := fun w h => hts w (List.mem_cons_of_mem _ h)
  have hown : s.vm.findClass "java/lang/String" = some m.cls := findClass_of_methodNamed B.named
  have hlocks := B.notSynchronized
  subst hsz
  have hD := hD0.self (sz := s.heap.size)
  generalize hAe : va_A [] s.heap.size = A at hD hV
  have hA : ∀ q : Nat, s.heap.size ≤ q → A q := fun q h => by rw [← hAe]; exact Or.inr h
  have hS : va_S A s.heap s.heap [] := va_S.rf
  have hP : va_P (dC, dI) vwCl [] s.heap := hP
  have hl := lv_entry [.ref (adK i)] (n := 1) (Nat.le_of_ble_eq_true rfl)
  have he : entryFrame m args 1 = _ := (congrArg (fun a => entryFrame m a 1) hargs).trans (lg_entry_eq m [.ref (adK i)] 1)
  rw [he]
  generalize (lg_sl [.ref (adK i)] ++ List.replicate (1 - (lg_sl [.ref (adK i)]).length) Slot.unset).toArray = ls at hl ⊢
  have hl : lv_has ls 1 [(0, .ref (adK i))] := hl
  have hi := sv_lt hF
  unfold fn_S_length at hF
  rw [if_pos hi] at hF
  have eo := Option.some.inj hF
  have hT := (hV.2.2.1.1 i hi).2.2.2
  rw [sv_len i hi] at hT
  refine lv_aload_n hx hb dj_len_0 rfl (lv_at hl 0 rfl) ?_
  refine vk_getf hx hb (hV.2.2.1.1 i hi).2.2.1 hS hown (ht _ tw_4_76) (fun _ h9 => h9) dj_len_1 ?_
  refine va_tlen hx hb hT hS rfl dj_len_4 ?_
  refine lv_aload_n hx hb dj_len_5 rfl (lv_at hl 0 rfl) ?_
  refine jv_ci (va_runV (C := "java/lang/String") (As := []) (rest := [.int (Int32.ofNat (st_tx.getD i []).length)]) ⟨hx, hb, hml, hown, ht⟩ (c_J_coder l dC dI cI cL cC cZ adK adV s.heap.size i hi) (cwV 0 ht (gi_V tw_1_202 tw_1_203 tw_1_204 tw_1_7 tw_1_205) rfl rfl rfl (by decide +kernel) ⟨Nat.le_of_ble_eq_true rfl, Nat.le_of_ble_eq_true rfl⟩) (jv_sv hK hP hD hS hA hV [] rfl (by decide) rfl (vk_recv hV.2.2.1 hi hS)) rfl rfl hl.1 rfl (lv_room (Nat.le_of_ble_eq_true rfl)) dj_len_6 ⟨Nat.le_of_ble_eq_true rfl, Nat.le_of_ble_eq_true rfl⟩) ?_
  refine lv_ishr hx hb dj_len_9 ?_
  rw [sb_shr0]
  exact W.iret (v := Int32.ofNat (st_tx.getD i []).length) hx hb hr (fun t ht hW => ⟨_, rfl, eo, ht⟩) (fun _ h => by cases h) dj_len_10
end
