/-! Pure rows: a line of a row on both sides. -/
section Rw
variable {n0 : Nat} {K0 P0 : Nat → Nat} {N0 : Nat → List Nat} {ct lo oc : Int32} {kd dp su : Nat → Int32} {nm : Nat → Int64} {sx : Int32} {cu pa re cl si lt : Nat → Int32} {n : Nat} {K D P : Nat → Nat} {N : Nat → List Nat} {L O : Nat} {pg : Nat → Int32} {T : Nat} {q : Nat → Nat} {a e : Nat}
theorem ln_no {mt tk : Int32} {rd : Nat → Int32} (hp : ∃ x, fn_M_plan (nI e) sx cu pa pg mt 0 0 (nI a) (nI O) = some (0, x, 0, 0)) (hb : ∀ mt ov, ∃ x, fn_M_bail (nI e) sx pg mt ov (nI a) = some (0, x, 0)) (hs : ∀ mt, ∃ x, fn_M_subtest (nI e) pg mt sx tk cu pa re cl si lt rd (nI a) (nI O) = some (0, x, sx, tk, cu, pa, re, cl, si, lt, rd)) (ht : ∀ mt, ∃ x, fn_M_testLine (nI e) pg mt sx tk cu pa re cl si lt rd (nI a) (nI O) = some (0, x, sx, tk, cu, pa, re, cl, si, lt, rd)) :
    ∃ x, fb_M_line_48 (nI e) pg mt sx 0 0 tk cu pa re cl si lt rd (nI a) (nI O) = some (0, x, sx, 0, 0, tk, cu, pa, re, cl, si, lt, rd) := by
  obtain ⟨x1, f1⟩ := hp
  obtain ⟨x2, f2⟩ := hb x1 0
  obtain ⟨x3, f3⟩ := hs x2
  obtain ⟨x4, f4⟩ := ht x3
  unfold fb_M_line_48
  rw [f1, Option.bind_some]
  dsimp only
  rw [if_pos z00_, f2, Option.bind_some]
  dsimp only
  rw [if_pos z00_, f3, Option.bind_some]
  dsimp only
  rw [if_pos z00_, f4, Option.bind_some]
  dsimp only
  rw [if_pos z00_]
  exact ⟨_, rfl⟩
theorem bo_LO (h : bo_ n0 K0 P0 N0 ct lo oc kd dp su nm sx cu pa re cl si lt n K D P N L O) : L = 0 ↔ O = 0 := by
  constructor
  · exact h.1.2.2.2.2.1.1
  · intro z
    cases L with
    | zero => rfl
    | succ i => have := (h.1.2.2.2.2.1.2 i rfl).2; omega
theorem row_31 (h : bo_ n0 K0 P0 N0 ct lo oc kd dp su nm sx cu pa re cl si lt n K D P N L O) (hq : rq_ pg T q) (he : e ≤ T) (ha : a ≤ e) (hl : ∀ i, a ≤ i → i < e → 32 ≤ q i ∧ q i ≤ 126) (hb : ¬ (L ≠ 0 ∧ mt_ q e a (tx_ 9) ∧ a + (tx_ 9).length = e)) (mt tk : Int32) (rd : Nat → Int32) :
    lr_ n0 K0 P0 N0 e cu pa re cl si lt (fb_E_takeRowLine_31 (nI e) pg 1 (nI a) ct lo oc kd dp su nm (nI O)) (fb_M_line_48 (nI e) pg mt sx 0 0 tk cu pa re cl si lt rd (nI a) (nI O)) := by
  have hT := hq.1
  have hO := h.1.1.2.2
  have hLO := bo_LO h
  obtain ⟨p1, p2⟩ := mp_ h hq he ha mt 0 0
  have bno : ∀ mt ov, ∃ x, fn_M_bail (nI e) sx pg mt ov (nI a) = some (0, x, 0) := fun mt ov => (mb_ h hq he ha mt ov).2 hb
  have sno : (O = 3 ∨ ¬ mt_ q e a (in_d O) ∨ ¬ mt_ q e (a + 4 * O) (tx_ 2)) → ∀ mt, ∃ x, fn_M_subtest (nI e) pg mt sx tk cu pa re cl si lt rd (nI a) (nI O) = some (0, x, sx, tk, cu, pa, re, cl, si, lt, rd) := fun z mt => ms_no hq he ha hO z mt tk rd
  have tno : (¬ mt_ q e a (in_d O) ∨ (¬ mt_ q e (a + 4 * O) (tx_ 3) ∧ ¬ mt_ q e (a + 4 * O) (tx_ 4))) → ∀ mt tk rd, ∃ x, fn_M_testLine (nI e) pg mt sx tk cu pa re cl si lt rd (nI a) (nI O) = some (0, x, sx, tk, cu, pa, re, cl, si, lt, rd) := fun z mt tk rd => mt_no h hq he ha z mt tk rd
  obtain ⟨i1, i2⟩ := rk_indent hq (d := O) (by omega) ha he
  unfold fb_E_takeRowLine_31
  by_cases z1 : mt_ q e a (in_d O)
  · have y1 : a + 4 * O ≤ e := by have := z1.1; rw [in_len] at this; exact this
    obtain ⟨t81, t82⟩ := rk_text hq (i := 8) (by omega) y1 he
    obtain ⟨t21, t22⟩ := rk_text hq (i := 2) (by omega) y1 he
    obtain ⟨t31, t32⟩ := rk_text hq (i := 3) (by omega) y1 he
    obtain ⟨t41, t42⟩ := rk_text hq (i := 4) (by omega) y1 he
    rw [i1 z1, Option.bind_some]
    dsimp only
    rw [if_neg n10_]
    by_cases z2 : mt_ q e (a + 4 * O) (tx_ 8)
    · have y2 := z2.1
      obtain ⟨b1, b2, b3⟩ := bo_row h
      obtain ⟨d1, d2⟩ := rk_num hq (m := rs_ P n L) (by omega) y2 he
      have w2 : ¬ mt_ q e (a + 4 * O) (tx_ 2) := mt_x z2 (by decide) (by decide) (by decide)
      have w3 : ¬ mt_ q e (a + 4 * O) (tx_ 3) := mt_x z2 (by decide) (by decide) (by decide)
      have w4 : ¬ mt_ q e (a + 4 * O) (tx_ 4) := mt_x z2 (by decide) (by decide) (by decide)
      rw [t81 z2, Option.bind_some]
      dsimp only
      rw [if_neg n10_]
      have e66 : ∀ y1, fb_E_takeRowLine_66 (nI e) pg 1 (nI (a + 4 * O + (tx_ 8).length)) ct lo oc kd dp su nm y1 = Option.bind (fn_C_skipNumber (nI e) pg (nI (a + 4 * O + (tx_ 8).length)) (nI (rs_ P n L))) fun o_87 => jv_gd (jv_zb o_87.1) <| some (o_87.1, y1, o_87.2, ct, lo, oc, kd, dp, su, nm) := by
        intro y1
        unfold fb_E_takeRowLine_66 fn_R_innermost
        rw [Option.bind_some, b2, Option.bind_some]
      have eY : (if nI O ≤ 0 then fb_E_takeRowLine_66 (nI e) pg 1 (nI (a + 4 * O + (tx_ 8).length)) ct lo oc kd dp su nm 3 else fb_E_takeRowLine_66 (nI e) pg 1 (nI (a + 4 * O + (tx_ 8).length)) ct lo oc kd dp su nm 2) = fb_E_takeRowLine_66 (nI e) pg 1 (nI (a + 4 * O + (tx_ 8).length)) ct lo oc kd dp su nm (if L = 0 then 3 else 2) := by
        by_cases e0 : L = 0
        · rw [if_pos e0, if_pos (by rw [hLO.mp e0]; decide)]
        · have : O ≠ 0 := fun z => e0 (hLO.mpr z)
          rw [if_neg e0, if_neg (show ¬ nI O ≤ 0 from nI_ge (a := 0) (by omega) (by omega))]
      rw [eY, e66]
      by_cases z3 : mt_ q e (a + 4 * O + (tx_ 8).length) (nu_ (rs_ P n L))
      · have y3 := z3.1
        rw [(d1 z3).1, Option.bind_some]
        dsimp only
        rw [pz_1]
        by_cases z4 : a + 4 * O + (tx_ 8).length + (nu_ (rs_ P n L)).length = e
        · refine Or.inr ?_
          unfold fb_M_line_48
          rw [p1 ⟨z1, z2, z3, z4⟩, Option.bind_some]
          dsimp only
          rw [if_neg n10_, z4]
          refine ⟨_, _, _, _, _, _, _, _, _, _, _, _, _, _, _, _, _, _, _, _, _, _, _, _, _, _, _, rfl, rfl, h, ?_⟩
          by_cases e0 : L = 0
          · rw [if_pos e0, if_pos e0, if_pos e0]
            exact Or.inr (Or.inr ⟨rfl, rfl⟩)
          · rw [if_neg e0, if_neg e0, if_neg e0]
            exact Or.inr (Or.inl ⟨rfl, rfl, rfl, e0⟩)
        · obtain ⟨x, f⟩ := ln_no (p2 (fun y => z4 y.2.2.2)) bno (sno (Or.inr (Or.inr w2))) (fun mt => tno (Or.inr ⟨w3, w4⟩) mt tk rd)
          rw [f]
          exact Or.inl ⟨_, _, _, _, _, _, _, _, _, _, _, _, _, _, _, _, rfl, Or.inr ⟨rfl, fun z => z4 ((nI_eq (by omega) (by omega)).mp z)⟩, rfl⟩
      · obtain ⟨x0, f1, f2⟩ := d2 z3
        obtain ⟨x, f⟩ := ln_no (p2 (fun y => z3 y.2.2.1)) bno (sno (Or.inr (Or.inr w2))) (fun mt => tno (Or.inr ⟨w3, w4⟩) mt tk rd)
        rw [f1, Option.bind_some, f]
        dsimp only
        rw [pz_0]
        exact Or.inl ⟨_, _, _, _, _, _, _, _, _, _, _, _, _, _, _, _, rfl, Or.inl rfl, rfl⟩
    · rw [t82 z2, Option.bind_some]
      dsimp only
      rw [if_pos z00_]
      have pno := p2 (fun y => z2 y.2.1)
      by_cases z5 : mt_ q e (a + 4 * O) (tx_ 2)
      · have w3 : ¬ mt_ q e (a + 4 * O) (tx_ 3) := mt_x z5 (by decide) (by decide) (by decide)
        have w4 : ¬ mt_ q e (a + 4 * O) (tx_ 4) := mt_x z5 (by decide) (by decide) (by decide)
        rw [t21 z5, Option.bind_some]
        dsimp only
        rw [if_neg n10_]
        obtain ⟨x1, f1⟩ := pno
        obtain ⟨x2, f2⟩ := bno x1 0
        unfold fb_M_line_48
        rw [f1, Option.bind_some]
        dsimp only
        rw [if_pos z00_, f2, Option.bind_some]
        dsimp only
        rw [if_pos z00_]
        rcases ms_both h hq he ha hl z1 z5 1 x2 tk rd with ⟨r1, s1, c1, l1, o1, kd1, dp1, su1, nm1, m2, t2, rd2, A, hr, B⟩ | ⟨c1, l1, o1, kd1, dp1, su1, nm1, m2, xx2, t2, cu2, pa2, re2, cl2, si2, lt2, rd2, n', K', D', P', N', L', O', A, B, hbo⟩
        · obtain ⟨x4, f4⟩ := tno (Or.inr ⟨w3, w4⟩) m2 t2 rd2
          rw [A, B, Option.bind_some]
          dsimp only
          rw [if_pos z00_, f4, Option.bind_some]
          dsimp only
          rw [if_pos z00_]
          exact Or.inl ⟨_, _, _, _, _, _, _, _, _, _, _, _, _, _, _, _, rfl, hr, rfl⟩
        · rw [A, B, Option.bind_some]
          dsimp only
          rw [if_neg n10_]
          exact Or.inr ⟨_, _, _, _, _, _, _, _, _, _, _, _, _, _, _, _, _, _, _, _, _, _, _, _, _, _, _, rfl, rfl, hbo, Or.inl ⟨rfl, rfl, rfl⟩⟩
      · rw [t22 z5, Option.bind_some]
        dsimp only
        rw [if_pos z00_]
        have model : ∀ x3 c, (∀ mt, fn_M_testLine (nI e) pg mt sx tk cu pa re cl si lt rd (nI a) (nI O) = fb_M_testLine_44 (nI e) pg (nI c) sx tk cu pa re cl si lt rd x3 (nI (rs_ P n L))) → fb_M_line_48 (nI e) pg mt sx 0 0 tk cu pa re cl si lt rd (nI a) (nI O) = Option.bind (fb_M_testLine_44 (nI e) pg (nI c) sx tk cu pa re cl si lt rd x3 (nI (rs_ P n L))) fun o_78 =>
        if o_78.1 = 0 then
          some (0, o_78.2.1, o_78.2.2.1, 0, 0, o_78.2.2.2.1, o_78.2.2.2.2.1, o_78.2.2.2.2.2.1, o_78.2.2.2.2.2.2.1, o_78.2.2.2.2.2.2.2.1, o_78.2.2.2.2.2.2.2.2.1, o_78.2.2.2.2.2.2.2.2.2.1, o_78.2.2.2.2.2.2.2.2.2.2)
        else
          some (1, o_78.2.1, o_78.2.2.1, 0, 0, o_78.2.2.2.1, o_78.2.2.2.2.1, o_78.2.2.2.2.2.1, o_78.2.2.2.2.2.2.1, o_78.2.2.2.2.2.2.2.1, o_78.2.2.2.2.2.2.2.2.1, o_78.2.2.2.2.2.2.2.2.2.1, o_78.2.2.2.2.2.2.2.2.2.2) := by
          intro x3 c hc
          obtain ⟨x1, f1⟩ := pno
          obtain ⟨x2, f2⟩ := bno x1 0
          obtain ⟨x3', f3⟩ := sno (Or.inr (Or.inr z5)) x2
          unfold fb_M_line_48
          rw [f1, Option.bind_some]
          dsimp only
          rw [if_pos z00_, f2, Option.bind_some]
          dsimp only
          rw [if_pos z00_, f3, Option.bind_some]
          dsimp only
          rw [if_pos z00_, hc]
        by_cases z6 : mt_ q e (a + 4 * O) (tx_ 3)
        · have y6 := z6.1
          have mm := model 1 (a + 4 * O + (tx_ 3).length) (fun mt => (mt_in h hq he ha z1 mt tk rd).1 z6)
          rw [t31 z6, Option.bind_some, mm]
          dsimp only
          rw [if_neg n10_]
          have r : tr_ n0 K0 P0 N0 e sx cu pa re cl si lt (fn_E_takeTest (nI e) pg (nI (a + 4 * O + (tx_ 3).length)) ct lo oc kd dp su nm 0 6 2) (fb_M_testLine_44 (nI e) pg (nI (a + 4 * O + (tx_ 3).length)) sx tk cu pa re cl si lt rd 1 (nI (rs_ P n L))) := rt_test h hq he y6 (fun i w1 w2 => hl i (by omega) w2) (kb := 0) (kx := 2) (w := 4) (Or.inl ⟨rfl, rfl, rfl, rfl⟩) tk rd
          rcases r with ⟨r1, s1, c1, l1, o1, kd1, dp1, su1, nm1, m2, t2, rd2, A, hr, B⟩ | ⟨c1, l1, o1, kd1, dp1, su1, nm1, m2, xx2, t2, cu2, pa2, re2, cl2, si2, lt2, rd2, n', K', D', P', N', L', O', A, B, hbo⟩
          · rw [A, B, Option.bind_some, Option.bind_some]
            dsimp only
            rw [if_pos z00_]
            have : jv_zb r1 = true := by rcases hr with w | w; rw [w]; rfl; rw [w.1]; rfl
            rw [jv_gp this]
            exact Or.inl ⟨_, _, _, _, _, _, _, _, _, _, _, _, _, _, _, _, rfl, hr, rfl⟩
          · rw [A, B, Option.bind_some, Option.bind_some]
            dsimp only
            rw [if_neg n10_, pz_1]
            exact Or.inr ⟨_, _, _, _, _, _, _, _, _, _, _, _, _, _, _, _, _, _, _, _, _, _, _, _, _, _, _, rfl, rfl, hbo, Or.inl ⟨rfl, rfl, rfl⟩⟩
        · rw [t32 z6, Option.bind_some]
          dsimp only
          rw [if_pos z00_]
          by_cases z7 : mt_ q e (a + 4 * O) (tx_ 4)
          · have y7 := z7.1
            have mm := model 0 (a + 4 * O + (tx_ 4).length) (fun mt => (mt_in h hq he ha z1 mt tk rd).2 z7)
            rw [t41 z7, Option.bind_some, mm]
            dsimp only
            rw [if_neg n10_]
            have r : tr_ n0 K0 P0 N0 e sx cu pa re cl si lt (fn_E_takeTest (nI e) pg (nI (a + 4 * O + (tx_ 4).length)) ct lo oc kd dp su nm 1 7 3) (fb_M_testLine_44 (nI e) pg (nI (a + 4 * O + (tx_ 4).length)) sx tk cu pa re cl si lt rd 0 (nI (rs_ P n L))) := rt_test h hq he y7 (fun i w1 w2 => hl i (by omega) w2) (kb := 1) (kx := 3) (w := 5) (Or.inr ⟨rfl, rfl, rfl, rfl⟩) tk rd
            rcases r with ⟨r1, s1, c1, l1, o1, kd1, dp1, su1, nm1, m2, t2, rd2, A, hr, B⟩ | ⟨c1, l1, o1, kd1, dp1, su1, nm1, m2, xx2, t2, cu2, pa2, re2, cl2, si2, lt2, rd2, n', K', D', P', N', L', O', A, B, hbo⟩
            · rw [A, B, Option.bind_some, Option.bind_some]
              dsimp only
              rw [if_pos z00_]
              rcases hr with w | ⟨w, w2⟩
              · rw [w, if_pos z00_]
                exact Or.inl ⟨_, _, _, _, _, _, _, _, _, _, _, _, _, _, _, _, rfl, Or.inl rfl, rfl⟩
              · rw [w, if_neg n10_]
                exact Or.inl ⟨_, _, _, _, _, _, _, _, _, _, _, _, _, _, _, _, rfl, Or.inr ⟨rfl, w2⟩, rfl⟩
            · rw [A, B, Option.bind_some, Option.bind_some]
              dsimp only
              rw [if_neg n10_, if_neg n10_]
              exact Or.inr ⟨_, _, _, _, _, _, _, _, _, _, _, _, _, _, _, _, _, _, _, _, _, _, _, _, _, _, _, rfl, rfl, hbo, Or.inl ⟨rfl, rfl, rfl⟩⟩
          · obtain ⟨x, f⟩ := ln_no pno bno (sno (Or.inr (Or.inr z5))) (fun mt => tno (Or.inr ⟨z6, z7⟩) mt tk rd)
            rw [t42 z7, Option.bind_some, f]
            dsimp only
            rw [if_pos z00_]
            exact Or.inl ⟨_, _, _, _, _, _, _, _, _, _, _, _, _, _, _, _, rfl, Or.inl rfl, rfl⟩
  · obtain ⟨x0, f0⟩ := i2 z1
    obtain ⟨x, f⟩ := ln_no (p2 (fun y => z1 y.1)) bno (sno (Or.inr (Or.inl z1))) (fun mt => tno (Or.inl z1) mt tk rd)
    rw [f0, Option.bind_some, f]
    dsimp only
    rw [if_pos z00_]
    exact Or.inl ⟨_, _, _, _, _, _, _, _, _, _, _, _, _, _, _, _, rfl, Or.inl rfl, rfl⟩
theorem row_ (h : bo_ n0 K0 P0 N0 ct lo oc kd dp su nm sx cu pa re cl si lt n K D P N L O) (hq : rq_ pg T q) (he : e ≤ T) (ha : a ≤ e) (hl : ∀ i, a ≤ i → i < e → 32 ≤ q i ∧ q i ≤ 126) (mt tk : Int32) (rd : Nat → Int32) :
    lr_ n0 K0 P0 N0 e cu pa re cl si lt (fn_E_takeRowLine (nI e) pg 1 (nI a) ct lo oc kd dp su nm) (fb_M_line_48 (nI e) pg mt sx 0 0 tk cu pa re cl si lt rd (nI a) (nI O)) := by
  have hT := hq.1
  have hO := h.1.1.2.2
  have hLO := bo_LO h
  unfold fn_E_takeRowLine fn_R_openSuites
  rw [Option.bind_some, h.2.1.2.2.1]
  have r31 := fun hb => row_31 h hq he ha hl hb mt tk rd
  rw [h.2.1.2.2.1] at r31
  by_cases e0 : O = 0
  · rw [if_pos (show nI O ≤ 0 by rw [e0]; decide)]
    exact r31 (fun y => y.1 (hLO.mpr e0))
  · have eL : L ≠ 0 := fun z => e0 (hLO.mp z)
    rw [if_neg (show ¬ nI O ≤ 0 from nI_ge (a := 0) (by omega) (by omega))]
    obtain ⟨t1, t2⟩ := rk_text hq (i := 9) (by omega) ha he
    by_cases z9 : mt_ q e a (tx_ 9)
    · have y9 := z9.1
      have nI0 : ¬ mt_ q e a (in_d O) := mt_x z9 (by decide) (by rw [in_len]; omega) (by
        obtain ⟨d, rfl⟩ : ∃ d, O = d + 1 := ⟨O - 1, by omega⟩
        rw [show (in_d (d + 1)).getD 0 0 = 32 from rfl]
        decide)
      obtain ⟨x1, f1⟩ := (mp_ h hq he ha mt 0 0).2 (fun y => nI0 y.1)
      obtain ⟨m1, m2⟩ := mb_ h hq he ha x1 0
      rw [t1 z9, Option.bind_some]
      dsimp only
      rw [if_neg n10_]
      by_cases z4 : a + (tx_ 9).length = e
      · unfold fb_M_line_48
        rw [f1, Option.bind_some]
        dsimp only
        rw [if_pos z00_, m1 ⟨eL, z9, z4⟩, Option.bind_some]
        dsimp only
        rw [if_neg n10_, z4]
        have h' := h
        rw [h.2.1.2.2.1] at h'
        exact Or.inr ⟨_, _, _, _, _, _, _, _, _, _, _, _, _, _, _, _, _, _, _, _, _, _, _, _, _, _, _, rfl, rfl, h', Or.inr (Or.inr ⟨rfl, rfl⟩)⟩
      · obtain ⟨x, f⟩ := ln_no ⟨x1, f1⟩ (fun mt ov => (mb_ h hq he ha mt ov).2 (fun y => z4 y.2.2)) (fun mt => ms_no hq he ha hO (Or.inr (Or.inl nI0)) mt tk rd) (fun mt => mt_no h hq he ha (Or.inl nI0) mt tk rd)
        rw [f]
        exact Or.inl ⟨_, _, _, _, _, _, _, _, _, _, _, _, _, _, _, _, rfl, Or.inr ⟨rfl, fun z => z4 ((nI_eq (by omega) (by omega)).mp z)⟩, rfl⟩
    · rw [t2 z9, Option.bind_some]
      dsimp only
      rw [if_pos z00_]
      exact r31 (fun y => z9 y.2.1)
end Rw
