/-! Pure rows: the law over the pure functions. -/
theorem fs_L_law_18 (L : Nat) (xs : Nat → Int32) (n : Nat) (bn : Int64) (zp : Int32) (ch : Nat → Int32) (ct : Int32) (lo : Int32) (oc : Int32) (kd : Nat → Int32) (dp : Nat → Int32) (su : Nat → Int32) (nm : Nat → Int64) (ct2 : Int32) (lo2 : Int32) (oc2 : Int32) (kd2 : Nat → Int32) (dp2 : Nat → Int32) (su2 : Nat → Int32) (nm2 : Nat → Int64) (bg : Int32) (ln : Int32) (mt : Int32) (en : Int32) (sx : Int32) (pl : Int32) (ov : Int32) (tk : Int32) (na : Nat → Int32) (cu : Nat → Int32) (pa : Nat → Int32) (re : Nat → Int32) (cl : Nat → Int32) (si : Nat → Int32) (lt : Nat → Int32) (pg : Nat → Int32) (rd : Nat → Int32) (x3 : Int32) : fl_L_law_18 L xs (n + 1) (bn, zp, ch, ct, lo, oc, kd, dp, su, nm, ct2, lo2, oc2, kd2, dp2, su2, nm2, bg, ln, mt, en, sx, pl, ov, tk, na, cu, pa, re, cl, si, lt, pg, rd, x3) = fb_L_law_18 L xs (fl_L_law_18 L xs n) bn zp ch ct lo oc kd dp su nm ct2 lo2 oc2 kd2 dp2 su2 nm2 bg ln mt en sx pl ov tk na cu pa re cl si lt pg rd x3 := jv_ls _ n _
theorem lp_step {L i : Nat} {xs : Nat → Int32} (hL : L ≤ 1536) (hi : i + 3 ≤ L) {k18 : Int64 × Int32 × (Nat → Int32) × Int32 × Int32 × Int32 × (Nat → Int32) × (Nat → Int32) × (Nat → Int32) × (Nat → Int64) × Int32 × Int32 × Int32 × (Nat → Int32) × (Nat → Int32) × (Nat → Int32) × (Nat → Int64) × Int32 × Int32 × Int32 × Int32 × Int32 × Int32 × Int32 × Int32 × (Nat → Int32) × (Nat → Int32) × (Nat → Int32) × (Nat → Int32) × (Nat → Int32) × (Nat → Int32) × (Nat → Int32) × (Nat → Int32) × (Nat → Int32) × Int32 → Option Int32} (hk : ∀ (bn : Int64) (zp : Int32) (ch : Nat → Int32) (ct : Int32) (lo : Int32) (oc : Int32) (kd : Nat → Int32) (dp : Nat → Int32) (su : Nat → Int32) (nm : Nat → Int64) (ct2 : Int32) (lo2 : Int32) (oc2 : Int32) (kd2 : Nat → Int32) (dp2 : Nat → Int32) (su2 : Nat → Int32) (nm2 : Nat → Int64) (bg : Int32) (ln : Int32) (mt : Int32) (en : Int32) (sx : Int32) (pl : Int32) (ov : Int32) (tk : Int32) (na : Nat → Int32) (cu : Nat → Int32) (pa : Nat → Int32) (re : Nat → Int32) (cl : Nat → Int32) (si : Nat → Int32) (lt : Nat → Int32) (pg : Nat → Int32) (rd : Nat → Int32), st_ bn zp ch ct lo oc kd dp su nm bg ln na cu pa re cl si lt pg → k18 (bn, zp, ch, ct, lo, oc, kd, dp, su, nm, ct2, lo2, oc2, kd2, dp2, su2, nm2, bg, ln, mt, en, sx, pl, ov, tk, na, cu, pa, re, cl, si, lt, pg, rd, nI (i + 3)) = some 1) {bn : Int64} {zp : Int32} {ch : Nat → Int32} {ct : Int32} {lo : Int32} {oc : Int32} {kd : Nat → Int32} {dp : Nat → Int32} {su : Nat → Int32} {nm : Nat → Int64} {ct2 : Int32} {lo2 : Int32} {oc2 : Int32} {kd2 : Nat → Int32} {dp2 : Nat → Int32} {su2 : Nat → Int32} {nm2 : Nat → Int64} {bg : Int32} {ln : Int32} {mt : Int32} {en : Int32} {sx : Int32} {pl : Int32} {ov : Int32} {tk : Int32} {na : Nat → Int32} {cu : Nat → Int32} {pa : Nat → Int32} {re : Nat → Int32} {cl : Nat → Int32} {si : Nat → Int32} {lt : Nat → Int32} {pg : Nat → Int32} {rd : Nat → Int32} (h : st_ bn zp ch ct lo oc kd dp su nm bg ln na cu pa re cl si lt pg) : fb_L_law_18 L xs k18 bn zp ch ct lo oc kd dp su nm ct2 lo2 oc2 kd2 dp2 su2 nm2 bg ln mt en sx pl ov tk na cu pa re cl si lt pg rd (nI i) = some 1 := by
  have g0 : jv_ig (nI i) L = true := pu_g (by omega) (by omega)
  have g1 : jv_ig (nI (i + 1)) L = true := pu_g (by omega) (by omega)
  have g2 : jv_ig (nI (i + 2)) L = true := pu_g (by omega) (by omega)
  have e1 : nI i + 1 = nI (i + 1) := nI_1 i
  have e2 : nI i + 2 = nI (i + 2) := nI_add i 2
  have e3 : nI i + 3 = nI (i + 3) := nI_add i 3
  have c1 : ¬ (Int32.ofNat L) - 3 < nI i := by
    have : (Int32.ofNat L) - 3 = nI (L - 3) := pk_sub (a := L) (b := 3) (by omega)
    rw [this]
    exact nI_nlt (by omega) (by omega)
  unfold fb_L_law_18
  rw [if_neg c1, jv_gp g0, e1, e2, e3]
  generalize (xs (nI i).toNatClampNeg) &&& 31 = w
  generalize xs (nI (i + 1)).toNatClampNeg = x
  generalize xs (nI (i + 2)).toNatClampNeg = y
  by_cases z0 : w = 0
  · rw [if_pos z0, jv_gp g1]
    obtain ⟨o1, o2, a1, a2, a3, a4⟩ := st_letter h x
    rw [a1, Option.bind_some, jv_gp g1, a2, Option.bind_some, if_pos a3]
    exact hk _ _ _ _ _ _ _ _ _ _ _ _ _ _ _ _ _ _ _ _ _ _ _ _ _ _ _ _ _ _ _ _ _ _ a4
  rw [if_neg z0]
  by_cases z1 : w = 1
  · rw [if_pos z1]
    obtain ⟨o1, o2, a1, a2, a3, a4⟩ := st_open h 
    rw [a1, Option.bind_some, a2, Option.bind_some, if_pos a3]
    exact hk _ _ _ _ _ _ _ _ _ _ _ _ _ _ _ _ _ _ _ _ _ _ _ _ _ _ _ _ _ _ _ _ _ _ a4
  rw [if_neg z1]
  by_cases z2 : w = 2
  · rw [if_pos z2]
    obtain ⟨o1, o2, a1, a2, a3, a4⟩ := st_close h 
    rw [a1, Option.bind_some, a2, Option.bind_some, if_pos a3]
    exact hk _ _ _ _ _ _ _ _ _ _ _ _ _ _ _ _ _ _ _ _ _ _ _ _ _ _ _ _ _ _ _ _ _ _ a4
  rw [if_neg z2]
  by_cases z3 : w = 3
  · rw [if_pos z3, jv_gp g1]
    obtain ⟨o1, o2, a1, a2, a3, a4⟩ := st_test h x
    rw [a1, Option.bind_some, jv_gp g1, a2, Option.bind_some, if_pos a3]
    exact hk _ _ _ _ _ _ _ _ _ _ _ _ _ _ _ _ _ _ _ _ _ _ _ _ _ _ _ _ _ _ _ _ _ _ a4
  rw [if_neg z3]
  by_cases z4 : w = 4
  · rw [if_pos z4]
    obtain ⟨o1, o2, a1, a2, a4⟩ := st_reset h
    rw [a1, a2, Option.bind_some, Option.bind_some]
    exact hk _ _ _ _ _ _ _ _ _ _ _ _ _ _ _ _ _ _ _ _ _ _ _ _ _ _ _ _ _ _ _ _ _ _ a4
  rw [if_neg z4]
  by_cases z5 : w = 5
  · rw [if_pos z5]
    obtain ⟨o1, a1, a2⟩ := st_nodes h 
    rw [a1, Option.bind_some, a2, Option.bind_some, if_pos rfl]
    exact hk _ _ _ _ _ _ _ _ _ _ _ _ _ _ _ _ _ _ _ _ _ _ _ _ _ _ _ _ _ _ _ _ _ _ h
  rw [if_neg z5]
  by_cases z6 : w = 6
  · rw [if_pos z6, jv_gp g1]
    obtain ⟨o1, a1, a2⟩ := st_kind h x
    rw [a1, Option.bind_some, jv_gp g1, a2, Option.bind_some, if_pos rfl]
    exact hk _ _ _ _ _ _ _ _ _ _ _ _ _ _ _ _ _ _ _ _ _ _ _ _ _ _ _ _ _ _ _ _ _ _ h
  rw [if_neg z6]
  by_cases z7 : w = 7
  · rw [if_pos z7, jv_gp g1]
    obtain ⟨o1, a1, a2⟩ := st_depth h x
    rw [a1, Option.bind_some, jv_gp g1, a2, Option.bind_some, if_pos rfl]
    exact hk _ _ _ _ _ _ _ _ _ _ _ _ _ _ _ _ _ _ _ _ _ _ _ _ _ _ _ _ _ _ _ _ _ _ h
  rw [if_neg z7]
  by_cases z8 : w = 8
  · rw [if_pos z8, jv_gp g1, jv_gp g2]
    obtain ⟨o1, a1, a2⟩ := st_name h x y
    rw [a1, Option.bind_some, jv_gp g1, jv_gp g2, a2, Option.bind_some, if_pos rfl]
    exact hk _ _ _ _ _ _ _ _ _ _ _ _ _ _ _ _ _ _ _ _ _ _ _ _ _ _ _ _ _ _ _ _ _ _ h
  rw [if_neg z8]
  by_cases z9 : w = 9
  · rw [if_pos z9]
    obtain ⟨o1, o2, a1, a2, a3, a4⟩ := st_write h 
    rw [a1, Option.bind_some, a2, Option.bind_some, if_pos a3]
    exact hk _ _ _ _ _ _ _ _ _ _ _ _ _ _ _ _ _ _ _ _ _ _ _ _ _ _ _ _ _ _ _ _ _ _ a4
  rw [if_neg z9]
  by_cases z10 : w = 10
  · rw [if_pos z10]
    obtain ⟨o1, o2, a1, a2, a3, a4⟩ := st_read h ct2 lo2 oc2 kd2 dp2 su2 nm2 mt en sx pl ov tk rd
    rw [a1, Option.bind_some, a2, Option.bind_some, if_pos a3]
    exact hk _ _ _ _ _ _ _ _ _ _ _ _ _ _ _ _ _ _ _ _ _ _ _ _ _ _ _ _ _ _ _ _ _ _ a4
  rw [if_neg z10]
  by_cases z11 : w = 11
  · rw [if_pos z11]
    obtain ⟨o1, a1, a2⟩ := st_length h 
    rw [a1, Option.bind_some, a2, Option.bind_some, if_pos rfl]
    exact hk _ _ _ _ _ _ _ _ _ _ _ _ _ _ _ _ _ _ _ _ _ _ _ _ _ _ _ _ _ _ _ _ _ _ h
  rw [if_neg z11]
  by_cases z12 : w = 12
  · rw [if_pos z12, jv_gp g1]
    obtain ⟨o1, a1, a2⟩ := st_at h x
    rw [a1, Option.bind_some, jv_gp g1, a2, Option.bind_some, if_pos rfl]
    exact hk _ _ _ _ _ _ _ _ _ _ _ _ _ _ _ _ _ _ _ _ _ _ _ _ _ _ _ _ _ _ _ _ _ _ h
  rw [if_neg z12]
  by_cases z13 : w = 13
  · rw [if_pos z13, jv_gp g1]
    obtain ⟨o1, o2, a1, a2, a3, a4⟩ := st_put h ((x.toUInt32 % 65536).toInt32)
    rw [a1, Option.bind_some, jv_gp g1, a2, Option.bind_some, if_pos a3]
    exact hk _ _ _ _ _ _ _ _ _ _ _ _ _ _ _ _ _ _ _ _ _ _ _ _ _ _ _ _ _ _ _ _ _ _ a4
  rw [if_neg z13]
  by_cases z14 : w = 14
  · rw [if_pos z14, jv_gp g1, jv_gp g2]
    obtain ⟨o1, o2, a1, a2, a3, a4⟩ := st_poke h x ((y.toUInt32 % 65536).toInt32)
    rw [a1, Option.bind_some, jv_gp g1, jv_gp g2, a2, Option.bind_some, if_pos a3]
    exact hk _ _ _ _ _ _ _ _ _ _ _ _ _ _ _ _ _ _ _ _ _ _ _ _ _ _ _ _ _ _ _ _ _ _ a4
  rw [if_neg z14]
  by_cases z15 : w = 15
  · rw [if_pos z15, jv_gp g1]
    obtain ⟨o1, o2, a1, a2, a3, a4⟩ := st_cut h x
    rw [a1, Option.bind_some, jv_gp g1, a2, Option.bind_some, if_pos a3]
    exact hk _ _ _ _ _ _ _ _ _ _ _ _ _ _ _ _ _ _ _ _ _ _ _ _ _ _ _ _ _ _ _ _ _ _ a4
  rw [if_neg z15]
  by_cases z16 : w = 16
  · rw [if_pos z16, jv_gp g1]
    obtain ⟨o1, a1, a2⟩ := st_attempts h x
    rw [a1, Option.bind_some, jv_gp g1, a2, Option.bind_some, if_pos rfl]
    exact hk _ _ _ _ _ _ _ _ _ _ _ _ _ _ _ _ _ _ _ _ _ _ _ _ _ _ _ _ _ _ _ _ _ _ h
  rw [if_neg z16]
  by_cases z17 : w = 17
  · rw [if_pos z17, jv_gp g1]
    obtain ⟨o1, a1, a2⟩ := st_flaky h x
    rw [a1, Option.bind_some, jv_gp g1, a2, Option.bind_some, if_pos rfl]
    exact hk _ _ _ _ _ _ _ _ _ _ _ _ _ _ _ _ _ _ _ _ _ _ _ _ _ _ _ _ _ _ _ _ _ _ h
  rw [if_neg z17]
  exact hk _ _ _ _ _ _ _ _ _ _ _ _ _ _ _ _ _ _ _ _ _ _ _ _ _ _ _ _ _ _ _ _ _ _ h
theorem lp_l3 : ∀ L, L < 3 → (Int32.ofNat L) - 3 < 0 := by decide
theorem lp_all {L : Nat} (hL : L ≤ 1536) (xs : Nat → Int32) : ∀ (d i F : Nat) (bn : Int64) (zp : Int32) (ch : Nat → Int32) (ct : Int32) (lo : Int32) (oc : Int32) (kd : Nat → Int32) (dp : Nat → Int32) (su : Nat → Int32) (nm : Nat → Int64) (ct2 : Int32) (lo2 : Int32) (oc2 : Int32) (kd2 : Nat → Int32) (dp2 : Nat → Int32) (su2 : Nat → Int32) (nm2 : Nat → Int64) (bg : Int32) (ln : Int32) (mt : Int32) (en : Int32) (sx : Int32) (pl : Int32) (ov : Int32) (tk : Int32) (na : Nat → Int32) (cu : Nat → Int32) (pa : Nat → Int32) (re : Nat → Int32) (cl : Nat → Int32) (si : Nat → Int32) (lt : Nat → Int32) (pg : Nat → Int32) (rd : Nat → Int32), L - i ≤ d → d < F → i ≤ L + 3 → st_ bn zp ch ct lo oc kd dp su nm bg ln na cu pa re cl si lt pg → fl_L_law_18 L xs F (bn, zp, ch, ct, lo, oc, kd, dp, su, nm, ct2, lo2, oc2, kd2, dp2, su2, nm2, bg, ln, mt, en, sx, pl, ov, tk, na, cu, pa, re, cl, si, lt, pg, rd, nI i) = some 1 := by
  intro d
  induction d with
  | zero =>
    intro i F bn zp ch ct lo oc kd dp su nm ct2 lo2 oc2 kd2 dp2 su2 nm2 bg ln mt en sx pl ov tk na cu pa re cl si lt pg rd hd hF hiL h
    cases F with
    | zero => omega
    | succ F =>
      rw [fs_L_law_18]
      unfold fb_L_law_18
      rw [if_pos ?_]
      by_cases h3 : L < 3
      · exact Int32.lt_of_lt_of_le (lp_l3 L h3) (nI_pos' (by omega))
      · have : (Int32.ofNat L) - 3 = nI (L - 3) := pk_sub (a := L) (b := 3) (by omega)
        rw [this]
        exact nI_lt (by omega) (by omega)
  | succ d ih =>
    intro i F bn zp ch ct lo oc kd dp su nm ct2 lo2 oc2 kd2 dp2 su2 nm2 bg ln mt en sx pl ov tk na cu pa re cl si lt pg rd hd hF hiL h
    cases F with
    | zero => omega
    | succ F =>
      by_cases hi : i + 3 ≤ L
      · rw [fs_L_law_18]
        exact lp_step hL hi (fun bn zp ch ct lo oc kd dp su nm ct2 lo2 oc2 kd2 dp2 su2 nm2 bg ln mt en sx pl ov tk na cu pa re cl si lt pg rd h' => ih (i + 3) F bn zp ch ct lo oc kd dp su nm ct2 lo2 oc2 kd2 dp2 su2 nm2 bg ln mt en sx pl ov tk na cu pa re cl si lt pg rd (by omega) (by omega) (by omega) h') h
      · rw [fs_L_law_18]
        unfold fb_L_law_18
        rw [if_pos ?_]
        by_cases h3 : L < 3
        · exact Int32.lt_of_lt_of_le (lp_l3 L h3) (nI_pos' (by omega))
        · have : (Int32.ofNat L) - 3 = nI (L - 3) := pk_sub (a := L) (b := 3) (by omega)
          rw [this]
          exact nI_lt (by omega) (by omega)
theorem pure_law {L : Nat} (hL : L ≤ 1536) (xs : Nat → Int32) : fn_L_law L xs = some 1 := by
  unfold fn_L_law fn_V_init fn_P_init fn_R_init fn_M_init
  rw [Option.bind_some, Option.bind_some, Option.bind_some, Option.bind_some, Option.bind_some]
  dsimp only
  refine lp_all hL xs L 0 4000 _ _ _ _ _ _ _ _ _ _ _ _ _ _ _ _ _ _ _ _ _ _ _ _ _ _ _ _ _ _ _ _ _ _ (by omega) (by omega) (by omega) ?_
  exact ⟨0, fun _ => 0, fun _ => 0, fun _ => 0, fun _ => [], 0, 0, [], 0, iv_new _ _ _ _, ⟨rfl, rfl, rfl, fun k q => by omega, fun k q => by omega, fun k q => by omega, fun k q => by omega⟩, ⟨rfl, fun k q => by omega, fun k q => by omega, fun k q => by omega, fun k q => by omega, fun k q => by omega⟩, ⟨⟨by decide, fun c hc => by cases hc⟩, rfl, rfl, fun i hi => absurd hi (Nat.not_lt_zero _)⟩, ⟨by omega, rfl, rfl, rfl, fun i hi => absurd hi (Nat.not_lt_zero _)⟩⟩
