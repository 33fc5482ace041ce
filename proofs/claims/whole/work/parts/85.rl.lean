/-! Pure rows: the reference's tries at a line, and a line of a row on both sides. -/
def md_ (sg pl ov : Int32) (L : Nat) : Prop := (sg = 1 ∧ pl = 0 ∧ ov = 0) ∨ (sg = 2 ∧ pl = 1 ∧ ov = 0 ∧ L ≠ 0) ∨ (sg = 3 ∧ ov = 1)
def lr_ (n0 : Nat) (K0 P0 : Nat → Nat) (N0 : Nat → List Nat) (e : Nat) (cu pa re cl si lt : Nat → Int32) (A : Option (Int32 × Int32 × Int32 × Int32 × Int32 × Int32 × (Nat → Int32) × (Nat → Int32) × (Nat → Int32) × (Nat → Int64))) (B : Option (Int32 × Int32 × Int32 × Int32 × Int32 × Int32 × (Nat → Int32) × (Nat → Int32) × (Nat → Int32) × (Nat → Int32) × (Nat → Int32) × (Nat → Int32) × (Nat → Int32))) : Prop :=
  (∃ (r1 g1 s1 c1 l1 o1 : Int32) (kd1 dp1 su1 : Nat → Int32) (nm1 : Nat → Int64) (m2 x2 p2 v2 t2 : Int32) (rd2 : Nat → Int32), A = some (r1, g1, s1, c1, l1, o1, kd1, dp1, su1, nm1) ∧ (r1 = 0 ∨ (r1 = 1 ∧ s1 ≠ nI e)) ∧ B = some (0, m2, x2, p2, v2, t2, cu, pa, re, cl, si, lt, rd2)) ∨
  (∃ (g1 c1 l1 o1 : Int32) (kd1 dp1 su1 : Nat → Int32) (nm1 : Nat → Int64) (m2 x2 p2 v2 t2 : Int32) (cu2 pa2 re2 cl2 si2 lt2 rd2 : Nat → Int32) (n : Nat) (K D P : Nat → Nat) (N : Nat → List Nat) (L O : Nat), A = some (1, g1, nI e, c1, l1, o1, kd1, dp1, su1, nm1) ∧ B = some (1, m2, x2, p2, v2, t2, cu2, pa2, re2, cl2, si2, lt2, rd2) ∧ bo_ n0 K0 P0 N0 c1 l1 o1 kd1 dp1 su1 nm1 x2 cu2 pa2 re2 cl2 si2 lt2 n K D P N L O ∧ md_ g1 p2 v2 L)
def t2_ (n0 : Nat) (K0 P0 : Nat → Nat) (N0 : Nat → List Nat) (e : Nat) (sg sx : Int32) (cu pa re cl si lt : Nat → Int32) (A : Option (Int32 × Int32 × Int32 × Int32 × Int32 × Int32 × (Nat → Int32) × (Nat → Int32) × (Nat → Int32) × (Nat → Int64))) (B : Option (Int32 × Int32 × Int32 × Int32 × (Nat → Int32) × (Nat → Int32) × (Nat → Int32) × (Nat → Int32) × (Nat → Int32) × (Nat → Int32) × (Nat → Int32))) : Prop :=
  (∃ (r1 s1 c1 l1 o1 : Int32) (kd1 dp1 su1 : Nat → Int32) (nm1 : Nat → Int64) (m2 t2 : Int32) (rd2 : Nat → Int32), A = some (r1, sg, s1, c1, l1, o1, kd1, dp1, su1, nm1) ∧ (r1 = 0 ∨ (r1 = 1 ∧ s1 ≠ nI e)) ∧ B = some (0, m2, sx, t2, cu, pa, re, cl, si, lt, rd2)) ∨
  (∃ (c1 l1 o1 : Int32) (kd1 dp1 su1 : Nat → Int32) (nm1 : Nat → Int64) (m2 x2 t2 : Int32) (cu2 pa2 re2 cl2 si2 lt2 rd2 : Nat → Int32) (n : Nat) (K D P : Nat → Nat) (N : Nat → List Nat) (L O : Nat), A = some (1, sg, nI e, c1, l1, o1, kd1, dp1, su1, nm1) ∧ B = some (1, m2, x2, t2, cu2, pa2, re2, cl2, si2, lt2, rd2) ∧ bo_ n0 K0 P0 N0 c1 l1 o1 kd1 dp1 su1 nm1 x2 cu2 pa2 re2 cl2 si2 lt2 n K D P N L O)
theorem n10_ : ¬ (1 : Int32) = 0 := by decide
theorem z00_ : (0 : Int32) = 0 := rfl
section Rl
variable {n0 : Nat} {K0 P0 : Nat → Nat} {N0 : Nat → List Nat} {ct lo oc : Int32} {kd dp su : Nat → Int32} {nm : Nat → Int64} {sx : Int32} {cu pa re cl si lt : Nat → Int32} {n : Nat} {K D P : Nat → Nat} {N : Nat → List Nat} {L O : Nat} {pg : Nat → Int32} {T : Nat} {q : Nat → Nat} {a e : Nat}
theorem mp_ (h : bo_ n0 K0 P0 N0 ct lo oc kd dp su nm sx cu pa re cl si lt n K D P N L O) (hq : rq_ pg T q) (he : e ≤ T) (ha : a ≤ e) (mt pl ov : Int32) :
    ((mt_ q e a (in_d O) ∧ mt_ q e (a + 4 * O) (tx_ 8) ∧ mt_ q e (a + 4 * O + (tx_ 8).length) (nu_ (rs_ P n L)) ∧ a + 4 * O + (tx_ 8).length + (nu_ (rs_ P n L)).length = e) → fn_M_plan (nI e) sx cu pa pg mt pl ov (nI a) (nI O) = some (1, nI e, if L = 0 then 0 else 1, if L = 0 then 1 else 0)) ∧
    (¬ (mt_ q e a (in_d O) ∧ mt_ q e (a + 4 * O) (tx_ 8) ∧ mt_ q e (a + 4 * O + (tx_ 8).length) (nu_ (rs_ P n L)) ∧ a + 4 * O + (tx_ 8).length + (nu_ (rs_ P n L)).length = e) → ∃ x, fn_M_plan (nI e) sx cu pa pg mt pl ov (nI a) (nI O) = some (0, x, pl, ov)) := by
  have hT := hq.1
  have hO := h.1.1.2.2
  have hL := h.1.1.2.1
  have hn := iv_n h.1
  obtain ⟨b1, b2, b3⟩ := bo_row h
  obtain ⟨s1, s2⟩ := rm_spaces hq (d := O) (by omega) ha he
  unfold fn_M_plan
  by_cases z1 : mt_ q e a (in_d O)
  · have y1 : a + 4 * O ≤ e := by have := z1.1; rw [in_len] at this; exact this
    obtain ⟨u1, u2⟩ := rm_text hq (w := 7) (by omega) y1 he
    have u1 : mt_ q e (a + 4 * O) (tx_ 8) → fn_M_eat (nI e) pg (nI (a + 4 * O)) 7 = some (1, nI (a + 4 * O + (tx_ 8).length)) := u1
    have u2 : ¬ mt_ q e (a + 4 * O) (tx_ 8) → fn_M_eat (nI e) pg (nI (a + 4 * O)) 7 = some (0, nI (a + 4 * O)) := u2
    rw [s1 z1, Option.bind_some]
    dsimp only
    rw [if_neg n10_]
    by_cases z2 : mt_ q e (a + 4 * O) (tx_ 8)
    · have y2 := z2.1
      obtain ⟨d1, d2⟩ := rk_num hq (m := rs_ P n L) (by omega) y2 he
      rw [u1 z2, Option.bind_some]
      dsimp only
      rw [if_neg n10_, b1, Option.bind_some]
      by_cases z3 : mt_ q e (a + 4 * O + (tx_ 8).length) (nu_ (rs_ P n L))
      · have y3 := z3.1
        rw [(d1 z3).2, Option.bind_some]
        dsimp only
        rw [if_neg n10_]
        by_cases z4 : a + 4 * O + (tx_ 8).length + (nu_ (rs_ P n L)).length = e
        · refine ⟨fun _ => ?_, fun y => absurd ⟨z1, z2, z3, z4⟩ y⟩
          rw [z4, if_pos rfl, h.2.2.2.2.1]
          unfold fb_M_plan_64
          by_cases e0 : L = 0
          · rw [if_pos ((pu_rneg (by omega)).mpr e0), if_neg (fun y => (pu_rpos (by omega)).mp y e0), if_pos e0, if_pos e0, pz_0]
          · rw [if_neg (fun y => e0 ((pu_rneg (by omega)).mp y)), if_pos ((pu_rpos (by omega)).mpr e0), if_neg e0, if_neg e0, pz_1]
        · rw [if_neg (fun y => z4 ((nI_eq (by omega) (by omega)).mp y))]
          exact ⟨fun y => absurd y.2.2.2 z4, fun _ => ⟨_, rfl⟩⟩
      · obtain ⟨x, f1, f2⟩ := d2 z3
        rw [f2, Option.bind_some]
        dsimp only
        rw [if_pos z00_]
        exact ⟨fun y => absurd y.2.2.1 z3, fun _ => ⟨_, rfl⟩⟩
    · rw [u2 z2, Option.bind_some]
      dsimp only
      rw [if_pos z00_]
      exact ⟨fun y => absurd y.2.1 z2, fun _ => ⟨_, rfl⟩⟩
  · obtain ⟨x, f⟩ := s2 z1
    rw [f, Option.bind_some]
    dsimp only
    rw [if_pos z00_]
    exact ⟨fun y => absurd y.1 z1, fun _ => ⟨_, rfl⟩⟩
theorem mb_ (h : bo_ n0 K0 P0 N0 ct lo oc kd dp su nm sx cu pa re cl si lt n K D P N L O) (hq : rq_ pg T q) (he : e ≤ T) (ha : a ≤ e) (mt ov : Int32) :
    ((L ≠ 0 ∧ mt_ q e a (tx_ 9) ∧ a + (tx_ 9).length = e) → fn_M_bail (nI e) sx pg mt ov (nI a) = some (1, nI e, 1)) ∧ (¬ (L ≠ 0 ∧ mt_ q e a (tx_ 9) ∧ a + (tx_ 9).length = e) → ∃ x, fn_M_bail (nI e) sx pg mt ov (nI a) = some (0, x, 0)) := by
  have hT := hq.1
  have hL := h.1.1.2.1
  have hn := iv_n h.1
  unfold fn_M_bail
  rw [h.2.2.2.2.1]
  by_cases e0 : L = 0
  · rw [if_pos ((pu_rneg (by omega)).mpr e0)]
    exact ⟨fun y => absurd e0 y.1, fun _ => ⟨_, rfl⟩⟩
  · obtain ⟨u1, u2⟩ := rm_text hq (w := 8) (by omega) ha he
    have u1 : mt_ q e a (tx_ 9) → fn_M_eat (nI e) pg (nI a) 8 = some (1, nI (a + (tx_ 9).length)) := u1
    have u2 : ¬ mt_ q e a (tx_ 9) → fn_M_eat (nI e) pg (nI a) 8 = some (0, nI a) := u2
    rw [if_neg (fun y => e0 ((pu_rneg (by omega)).mp y))]
    by_cases z : mt_ q e a (tx_ 9)
    · have := z.1
      rw [u1 z, Option.bind_some]
      dsimp only
      rw [if_neg n10_]
      by_cases z4 : a + (tx_ 9).length = e
      · rw [if_pos (by rw [z4]), z4]
        exact ⟨fun _ => rfl, fun y => absurd ⟨e0, z, rfl⟩ y⟩
      · rw [if_neg (fun y => z4 ((nI_eq (by omega) (by omega)).mp y))]
        exact ⟨fun y => absurd y.2.2 z4, fun _ => ⟨_, rfl⟩⟩
    · rw [u2 z, Option.bind_some]
      dsimp only
      rw [if_pos z00_]
      exact ⟨fun y => absurd y.2.1 z, fun _ => ⟨_, rfl⟩⟩
theorem ms_no (hq : rq_ pg T q) (he : e ≤ T) (ha : a ≤ e) (hO : O ≤ 3) (hz : O = 3 ∨ ¬ mt_ q e a (in_d O) ∨ ¬ mt_ q e (a + 4 * O) (tx_ 2)) (mt tk : Int32) (rd : Nat → Int32) :
    ∃ x, fn_M_subtest (nI e) pg mt sx tk cu pa re cl si lt rd (nI a) (nI O) = some (0, x, sx, tk, cu, pa, re, cl, si, lt, rd) := by
  unfold fn_M_subtest
  by_cases e3 : O = 3
  · rw [if_pos (by rw [e3]; decide)]
    exact ⟨_, rfl⟩
  · rw [if_neg (show ¬ (3 : Int32) ≤ nI O from nI_ge (b := 3) (by omega) (by decide))]
    obtain ⟨s1, s2⟩ := rm_spaces hq (d := O) (by omega) ha he
    by_cases z1 : mt_ q e a (in_d O)
    · have y1 : a + 4 * O ≤ e := by have := z1.1; rw [in_len] at this; exact this
      obtain ⟨u1, u2⟩ := rm_text hq (w := 6) (by omega) y1 he
      have u2 : ¬ mt_ q e (a + 4 * O) (tx_ 2) → fn_M_eat (nI e) pg (nI (a + 4 * O)) 6 = some (0, nI (a + 4 * O)) := u2
      have z2 : ¬ mt_ q e (a + 4 * O) (tx_ 2) := by
        rcases hz with z | z | z
        · exact absurd z e3
        · exact absurd z1 z
        · exact z
      rw [s1 z1, Option.bind_some]
      dsimp only
      rw [if_neg n10_, u2 z2, Option.bind_some]
      dsimp only
      rw [if_pos z00_]
      exact ⟨_, rfl⟩
    · obtain ⟨x, f⟩ := s2 z1
      rw [f, Option.bind_some]
      dsimp only
      rw [if_pos z00_]
      exact ⟨_, rfl⟩
theorem ms_both (h : bo_ n0 K0 P0 N0 ct lo oc kd dp su nm sx cu pa re cl si lt n K D P N L O) (hq : rq_ pg T q) (he : e ≤ T) (ha : a ≤ e) (hl : ∀ i, a ≤ i → i < e → 32 ≤ q i ∧ q i ≤ 126) (z1 : mt_ q e a (in_d O)) (z2 : mt_ q e (a + 4 * O) (tx_ 2)) (sg mt tk : Int32) (rd : Nat → Int32) :
    t2_ n0 K0 P0 N0 e sg sx cu pa re cl si lt
      (Option.bind (fn_C_takeName (nI e) pg (nI (a + 4 * O + (tx_ 2).length))) fun o_113 =>
        Option.bind (fn_R_addNode ct lo oc kd dp su nm 6 o_113.1) fun o_116 =>
        if o_116.1 < 0 then
          some (0, sg, o_113.2, o_116.2.1, o_116.2.2.1, o_116.2.2.2.1, o_116.2.2.2.2.1, o_116.2.2.2.2.2.1, o_116.2.2.2.2.2.2.1, o_116.2.2.2.2.2.2.2)
        else
          some (1, sg, o_113.2, o_116.2.1, o_116.2.2.1, o_116.2.2.2.1, o_116.2.2.2.2.1, o_116.2.2.2.2.2.1, o_116.2.2.2.2.2.2.1, o_116.2.2.2.2.2.2.2))
      (fn_M_subtest (nI e) pg mt sx tk cu pa re cl si lt rd (nI a) (nI O)) := by
  have hT := hq.1
  have hO := h.1.1.2.2
  have hn := iv_n h.1
  have y2 := z2.1
  have hl2 : ∀ i, a + 4 * O + (tx_ 2).length ≤ i → i < e → 32 ≤ q i ∧ q i ≤ 126 := fun i w1 w2 => hl i (by omega) w2
  obtain ⟨o1, o2, o3, o4⟩ := tn_ok (q := q) (e := e) 6 _ y2 hl2
  rw [rk_name hq he y2 hl2, Option.bind_some]
  dsimp only
  by_cases bad : n = 24 ∨ O = 3
  · rw [show (6 : Int32) = nI 6 from rfl, px_full (K6 := 6) (O := O) (n := n) (by omega) hO hn h.2.1.1 h.2.1.2.2.1 (by omega), Option.bind_some]
    dsimp only
    rw [if_pos (by decide)]
    refine Or.inl ?_
    unfold fn_M_subtest
    by_cases e3 : O = 3
    · rw [if_pos (by rw [e3]; decide)]
      exact ⟨_, _, _, _, _, _, _, _, _, _, _, _, rfl, Or.inl rfl, rfl⟩
    · rw [if_neg (show ¬ (3 : Int32) ≤ nI O from nI_ge (b := 3) (by omega) (by decide))]
      obtain ⟨s1, s2⟩ := rm_spaces hq (d := O) (by omega) ha he
      have y1 : a + 4 * O ≤ e := by omega
      obtain ⟨u1, u2⟩ := rm_text hq (w := 6) (by omega) y1 he
      have u1 : mt_ q e (a + 4 * O) (tx_ 2) → fn_M_eat (nI e) pg (nI (a + 4 * O)) 6 = some (1, nI (a + 4 * O + (tx_ 2).length)) := u1
      obtain ⟨n1, n2⟩ := rm_name hq (u := e) he y2 hl2 tk rd
      rw [s1 z1, Option.bind_some]
      dsimp only
      rw [if_neg n10_, u1 z2, Option.bind_some]
      dsimp only
      rw [if_neg n10_]
      by_cases hu : (tn_ q e 6 (a + 4 * O + (tx_ 2).length)).2 = e
      · obtain ⟨rd', f1, f2⟩ := n1 hu
        rw [f1, Option.bind_some]
        dsimp only
        rw [if_neg n10_, bo_full h (by omega), Option.bind_some]
        dsimp only
        rw [if_pos z00_]
        exact ⟨_, _, _, _, _, _, _, _, _, _, _, _, rfl, Or.inl rfl, rfl⟩
      · obtain ⟨x, t, r, f1⟩ := n2 hu
        rw [f1, Option.bind_some]
        dsimp only
        rw [if_pos z00_]
        exact ⟨_, _, _, _, _, _, _, _, _, _, _, _, rfl, Or.inl rfl, rfl⟩
  · obtain ⟨s1, s2⟩ := rm_spaces hq (d := O) (by omega) ha he
    have y1 : a + 4 * O ≤ e := by omega
    obtain ⟨u1, u2⟩ := rm_text hq (w := 6) (by omega) y1 he
    have u1 : mt_ q e (a + 4 * O) (tx_ 2) → fn_M_eat (nI e) pg (nI (a + 4 * O)) 6 = some (1, nI (a + 4 * O + (tx_ 2).length)) := u1
    obtain ⟨n1, n2⟩ := rm_name hq (u := e) he y2 hl2 tk rd
    unfold fn_M_subtest
    rw [if_neg (show ¬ (3 : Int32) ≤ nI O from nI_ge (b := 3) (by omega) (by decide)), s1 z1, Option.bind_some]
    dsimp only
    rw [if_neg n10_, u1 z2, Option.bind_some]
    dsimp only
    rw [if_neg n10_]
    by_cases hu : (tn_ q e 6 (a + 4 * O + (tx_ 2).length)).2 = e
    · obtain ⟨rd', f1, f2⟩ := n1 hu
      obtain ⟨c', l', o', kd', dp', su', nm', sx', cu', pa', re', cl', si', lt', e1, e2, e3⟩ := bo_add h (show n < 24 by omega) (k := 6) (w := 4) (by omega) ⟨o1, o2⟩ f2
      have e1 : fn_R_addNode ct lo oc kd dp su nm 6 (lN (pu_k (tn_ q e 6 (a + 4 * O + (tx_ 2).length)).1)) = some (nI n, c', l', o', kd', dp', su', nm') := e1
      have e2 : fn_M_accept (nI (tn_ q e 6 (a + 4 * O + (tx_ 2).length)).1.length) rd' sx cu pa re cl si lt 4 = some (1, sx', cu', pa', re', cl', si', lt') := e2
      rw [f1, Option.bind_some]
      dsimp only
      rw [if_neg n10_, e1, Option.bind_some, e2, Option.bind_some]
      dsimp only
      rw [if_neg (nI_pos (by omega)), if_neg n10_, hu]
      exact Or.inr ⟨_, _, _, _, _, _, _, _, _, _, _, _, _, _, _, _, _, _, _, _, _, _, _, _, rfl, rfl, e3⟩
    · obtain ⟨x, t, r, f1⟩ := n2 hu
      obtain ⟨c', l', o', kd', dp', su', nm', e1, e2⟩ := px_add (k := 6) (l := (tn_ q e 6 (a + 4 * O + (tx_ 2).length)).1) h.2.1 (show n < 24 by omega) hO (by omega)
      have e1 : fn_R_addNode ct lo oc kd dp su nm 6 (lN (pu_k (tn_ q e 6 (a + 4 * O + (tx_ 2).length)).1)) = some (nI n, c', l', o', kd', dp', su', nm') := e1
      rw [f1, Option.bind_some, e1, Option.bind_some]
      dsimp only
      rw [if_neg (nI_pos (by omega)), if_pos z00_]
      exact Or.inl ⟨_, _, _, _, _, _, _, _, _, _, _, _, rfl, Or.inr ⟨rfl, fun z => hu ((nI_eq (by omega) (by omega)).mp z)⟩, rfl⟩
theorem mt_no (h : bo_ n0 K0 P0 N0 ct lo oc kd dp su nm sx cu pa re cl si lt n K D P N L O) (hq : rq_ pg T q) (he : e ≤ T) (ha : a ≤ e) (hz : ¬ mt_ q e a (in_d O) ∨ (¬ mt_ q e (a + 4 * O) (tx_ 3) ∧ ¬ mt_ q e (a + 4 * O) (tx_ 4))) (mt tk : Int32) (rd : Nat → Int32) :
    ∃ x, fn_M_testLine (nI e) pg mt sx tk cu pa re cl si lt rd (nI a) (nI O) = some (0, x, sx, tk, cu, pa, re, cl, si, lt, rd) := by
  have hO := h.1.1.2.2
  unfold fn_M_testLine
  obtain ⟨s1, s2⟩ := rm_spaces hq (d := O) (by omega) ha he
  by_cases z1 : mt_ q e a (in_d O)
  · have y1 : a + 4 * O ≤ e := by have := z1.1; rw [in_len] at this; exact this
    obtain ⟨u1, u2⟩ := rm_text hq (w := 1) (by omega) y1 he
    obtain ⟨v1, v2⟩ := rm_text hq (w := 2) (by omega) y1 he
    have u2 : ¬ mt_ q e (a + 4 * O) (tx_ 3) → fn_M_eat (nI e) pg (nI (a + 4 * O)) 1 = some (0, nI (a + 4 * O)) := u2
    have v2 : ¬ mt_ q e (a + 4 * O) (tx_ 4) → fn_M_eat (nI e) pg (nI (a + 4 * O)) 2 = some (0, nI (a + 4 * O)) := v2
    obtain ⟨w1, w2⟩ : ¬ mt_ q e (a + 4 * O) (tx_ 3) ∧ ¬ mt_ q e (a + 4 * O) (tx_ 4) := by
      rcases hz with z | z
      · exact absurd z1 z
      · exact z
    rw [s1 z1, Option.bind_some]
    dsimp only
    rw [if_neg n10_, u2 w1, Option.bind_some, (bo_row h).1, Option.bind_some]
    dsimp only
    rw [if_pos z00_, v2 w2, Option.bind_some]
    dsimp only
    rw [if_pos z00_]
    exact ⟨_, rfl⟩
  · obtain ⟨x, f⟩ := s2 z1
    rw [f, Option.bind_some]
    dsimp only
    rw [if_pos z00_]
    exact ⟨_, rfl⟩
theorem mt_in (h : bo_ n0 K0 P0 N0 ct lo oc kd dp su nm sx cu pa re cl si lt n K D P N L O) (hq : rq_ pg T q) (he : e ≤ T) (ha : a ≤ e) (z1 : mt_ q e a (in_d O)) (mt tk : Int32) (rd : Nat → Int32) :
    (mt_ q e (a + 4 * O) (tx_ 3) → fn_M_testLine (nI e) pg mt sx tk cu pa re cl si lt rd (nI a) (nI O) = fb_M_testLine_44 (nI e) pg (nI (a + 4 * O + (tx_ 3).length)) sx tk cu pa re cl si lt rd 1 (nI (rs_ P n L))) ∧
    (mt_ q e (a + 4 * O) (tx_ 4) → fn_M_testLine (nI e) pg mt sx tk cu pa re cl si lt rd (nI a) (nI O) = fb_M_testLine_44 (nI e) pg (nI (a + 4 * O + (tx_ 4).length)) sx tk cu pa re cl si lt rd 0 (nI (rs_ P n L))) := by
  have hO := h.1.1.2.2
  unfold fn_M_testLine
  obtain ⟨s1, s2⟩ := rm_spaces hq (d := O) (by omega) ha he
  have y1 : a + 4 * O ≤ e := by have := z1.1; rw [in_len] at this; exact this
  obtain ⟨u1, u2⟩ := rm_text hq (w := 1) (by omega) y1 he
  obtain ⟨v1, v2⟩ := rm_text hq (w := 2) (by omega) y1 he
  have u1 : mt_ q e (a + 4 * O) (tx_ 3) → fn_M_eat (nI e) pg (nI (a + 4 * O)) 1 = some (1, nI (a + 4 * O + (tx_ 3).length)) := u1
  have u2 : ¬ mt_ q e (a + 4 * O) (tx_ 3) → fn_M_eat (nI e) pg (nI (a + 4 * O)) 1 = some (0, nI (a + 4 * O)) := u2
  have v1 : mt_ q e (a + 4 * O) (tx_ 4) → fn_M_eat (nI e) pg (nI (a + 4 * O)) 2 = some (1, nI (a + 4 * O + (tx_ 4).length)) := v1
  rw [s1 z1, Option.bind_some]
  dsimp only
  rw [if_neg n10_, (bo_row h).1]
  constructor
  · intro z
    rw [u1 z, Option.bind_some, Option.bind_some]
    dsimp only
    rw [if_neg n10_]
  · intro z
    have w1 : ¬ mt_ q e (a + 4 * O) (tx_ 3) := mt_x z (by decide) (by decide) (by decide)
    rw [u2 w1, Option.bind_some, Option.bind_some]
    dsimp only
    rw [if_pos z00_, v1 z, Option.bind_some]
    dsimp only
    rw [if_neg n10_]
end Rl
