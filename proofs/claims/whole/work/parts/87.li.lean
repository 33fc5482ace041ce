/-! Pure rows: a suite's end and any line, on both sides. -/
section Cl
variable {n0 : Nat} {K0 P0 : Nat → Nat} {N0 : Nat → List Nat} {ct lo oc : Int32} {kd dp su : Nat → Int32} {nm : Nat → Int64} {sx : Int32} {cu pa re cl si lt : Nat → Int32} {n : Nat} {K D P : Nat → Nat} {N : Nat → List Nat} {L O : Nat} {pg : Nat → Int32} {T : Nat} {q : Nat → Nat} {a e : Nat}
theorem c93_0 (en mt pl tk : Int32) (rd : Nat → Int32) : fb_M_closing_93 en cu pa re si lt pg mt sx pl tk cl rd 0 = some (0, mt, sx, pl, tk, cl, rd) := by
  unfold fb_M_closing_93
  rw [if_pos z00_, pz_0]
theorem c93_1 (h : bo_ n0 K0 P0 N0 ct lo oc kd dp su nm sx cu pa re cl si lt n K D P N L O) {i : Nat} (hL : L = i + 1) (en mt pl tk : Int32) (rd : Nat → Int32) : fb_M_closing_93 en cu pa re si lt pg mt sx pl tk cl rd 1 = some (1, mt, pu_r (P i), 0, tk, upd cl (24 * 1 + i) 1, rd) := by
  have hn := iv_n h.1
  have hin := (iv_12 h.1 i hL).1
  have hp := h.2.2.1.2.1 i hin
  rw [Nat.mul_one] at hp
  unfold fb_M_closing_93
  rw [if_neg n10_, h.2.2.2.2.1, hL, pu_rs, ip_, jv_gp (pu_g (by omega) (by decide)), jv_gp (pu_g (by omega) (by decide)), pz_1, nI_clamp (by omega), hp, pv_z1]
theorem cl_57 (h : bo_ n0 K0 P0 N0 ct lo oc kd dp su nm sx cu pa re cl si lt n K D P N L O) (hq : rq_ pg T q) {i b : Nat} (hL : L = i + 1) (he : e ≤ T) (hb : b ≤ e) (hl : ∀ i, b ≤ i → i < e → 32 ≤ q i ∧ q i ≤ 126) {y : Nat} (hy : y = 1 ∨ y = 2) (l' o' : Int32) (kd' : Nat → Int32) (pl tk : Int32) (rd : Nat → Int32) :
    (∃ (r1 s1 m2 t2 : Int32) (rd2 : Nat → Int32), fb_E_takeSuiteEnd_57 (nI e) pg ct dp su nm (nI b) l' o' kd' (nI i) (mw_ y) = some (r1, s1, l', o', kd') ∧ (r1 = 0 ∨ (r1 = 1 ∧ s1 ≠ nI e)) ∧ fb_M_closing_36 (nI e) cu pa re si lt pg (nI b) sx pl tk cl rd (nI y) = some (0, m2, sx, pl, t2, cl, rd2)) ∨
    (∃ (m2 t2 : Int32) (rd2 : Nat → Int32), fb_E_takeSuiteEnd_57 (nI e) pg ct dp su nm (nI b) l' o' kd' (nI i) (mw_ y) = some (1, nI e, l', o', kd') ∧ fb_M_closing_36 (nI e) cu pa re si lt pg (nI b) sx pl tk cl rd (nI y) = some (1, m2, pu_r (P i), 0, t2, upd cl (24 * 1 + i) 1, rd2)) := by
  have hT := hq.1
  have hn := iv_n h.1
  have hin := (iv_12 h.1 i hL).1
  have sxi : sx = nI i := by rw [h.2.2.2.2.1, hL, pu_rs]
  obtain ⟨t1, t2⟩ := rk_text hq (i := mw_ y) (by rcases hy with w | w <;> rw [w] <;> decide) hb he
  obtain ⟨u1, u2⟩ := rm_text hq (w := y) (by omega) hb he
  have pc := lc_place h.1 h.2.1.2.2.2.2.2.1 hin
  have pm : fn_M_placeOf pa 1 sx = some (nI (pl_ P i)) := by
    rw [sxi]
    exact pm_place (g := 1) (by omega) hn hin (iv_5 h.1) h.2.2.1.2.1
  have hpl : pl_ P i < 100 := pl_lt i (by omega)
  unfold fb_E_takeSuiteEnd_57 fb_M_closing_36
  by_cases z1 : mt_ q e b (tx_ (mw_ y))
  · have y1 := z1.1
    obtain ⟨d1, d2⟩ := rk_num hq (m := pl_ P i) hpl y1 he
    rw [t1 z1, u1 z1, Option.bind_some, Option.bind_some]
    dsimp only
    rw [if_neg n10_, if_neg n10_, h.2.1.1, pc, pm, Option.bind_some, Option.bind_some]
    by_cases z2 : mt_ q e (b + (tx_ (mw_ y)).length) (nu_ (pl_ P i))
    · have y2 := z2.1
      obtain ⟨v1, v2⟩ := rk_text hq (i := 5) (by omega) y2 he
      obtain ⟨w1, w2⟩ := rm_text hq (w := 3) (by omega) y2 he
      have w1 : mt_ q e (b + (tx_ (mw_ y)).length + (nu_ (pl_ P i)).length) (tx_ 5) → fn_M_eat (nI e) pg (nI (b + (tx_ (mw_ y)).length + (nu_ (pl_ P i)).length)) 3 = some (1, nI (b + (tx_ (mw_ y)).length + (nu_ (pl_ P i)).length + (tx_ 5).length)) := w1
      have w2 : ¬ mt_ q e (b + (tx_ (mw_ y)).length + (nu_ (pl_ P i)).length) (tx_ 5) → fn_M_eat (nI e) pg (nI (b + (tx_ (mw_ y)).length + (nu_ (pl_ P i)).length)) 3 = some (0, nI (b + (tx_ (mw_ y)).length + (nu_ (pl_ P i)).length)) := w2
      rw [(d1 z2).1, (d1 z2).2, Option.bind_some, Option.bind_some]
      dsimp only
      rw [if_neg n10_, if_neg n10_]
      by_cases z3 : mt_ q e (b + (tx_ (mw_ y)).length + (nu_ (pl_ P i)).length) (tx_ 5)
      · have y3 := z3.1
        have hl3 : ∀ j, b + (tx_ (mw_ y)).length + (nu_ (pl_ P i)).length + (tx_ 5).length ≤ j → j < e → 32 ≤ q j ∧ q j ≤ 126 := fun j j1 j2 => hl j (by omega) j2
        obtain ⟨o1, o2, o3, o4⟩ := tn_ok (q := q) (e := e) 6 _ y3 hl3
        obtain ⟨n1, n2⟩ := rm_name hq (u := e) he y3 hl3 tk rd
        have okn : pu_ok (tn_ q e 6 (b + (tx_ (mw_ y)).length + (nu_ (pl_ P i)).length + (tx_ 5).length)).1 := ⟨o1, o2⟩
        rw [v1 z3, w1 z3, Option.bind_some, Option.bind_some]
        dsimp only
        rw [if_neg n10_, if_neg n10_, rk_name hq he y3 hl3, Option.bind_some, pc_nameIn hn hin h.2.1.2.2.2.2.2.2, Option.bind_some]
        dsimp only
        by_cases hu : (tn_ q e 6 (b + (tx_ (mw_ y)).length + (nu_ (pl_ P i)).length + (tx_ 5).length)).2 = e
        · obtain ⟨rd', f1, f2⟩ := n1 hu
          have isn := is_name (si := si) (lt := lt) (show i < 24 by omega) okn (iv_N h.1 i hin) f2 (h.2.2.1.2.2.2.2.1 i hin) (h.2.2.1.2.2.2.2.2 i hin)
          rw [f1, Option.bind_some]
          dsimp only
          rw [if_neg n10_, sxi, isn, Option.bind_some, ← sxi, hu]
          by_cases en : N i = (tn_ q e 6 (b + (tx_ (mw_ y)).length + (nu_ (pl_ P i)).length + (tx_ 5).length)).1
          · rw [if_pos ((pn_cmp _ _).mpr (by rw [en])), if_neg (fun z => by have := pu_b0.mp z; simp [en] at this), c93_1 h hL]
            exact Or.inr ⟨_, _, _, rfl, rfl⟩
          · rw [if_neg (fun z => en ((pn_lN_inj okn (iv_N h.1 i hin)).mp ((pn_cmp _ _).mp z)).symm), if_pos (pu_b0.mpr (by simp [en])), c93_0]
            exact Or.inl ⟨_, _, _, _, _, rfl, Or.inl rfl, rfl⟩
        · obtain ⟨x, t, r, f1⟩ := n2 hu
          rw [f1, Option.bind_some]
          dsimp only
          rw [if_pos z00_, c93_0]
          by_cases en : lg_cmp (lN (pu_k (tn_ q e 6 (b + (tx_ (mw_ y)).length + (nu_ (pl_ P i)).length + (tx_ 5).length)).1)) (lN (pu_k (N i))) = 0
          · rw [if_pos en]
            exact Or.inl ⟨_, _, _, _, _, rfl, Or.inr ⟨rfl, fun z => hu ((nI_eq (by omega) (by omega)).mp z)⟩, rfl⟩
          · rw [if_neg en]
            exact Or.inl ⟨_, _, _, _, _, rfl, Or.inl rfl, rfl⟩
      · rw [v2 z3, w2 z3, Option.bind_some, Option.bind_some]
        dsimp only
        rw [if_pos z00_, if_pos z00_, c93_0]
        exact Or.inl ⟨_, _, _, _, _, rfl, Or.inl rfl, rfl⟩
    · obtain ⟨x, f1, f2⟩ := d2 z2
      rw [f1, f2, Option.bind_some, Option.bind_some]
      dsimp only
      rw [if_pos z00_, if_pos z00_, c93_0]
      exact Or.inl ⟨_, _, _, _, _, rfl, Or.inl rfl, rfl⟩
  · rw [t2 z1, u2 z1, Option.bind_some, Option.bind_some]
    dsimp only
    rw [if_pos z00_, if_pos z00_, c93_0]
    exact Or.inl ⟨_, _, _, _, _, rfl, Or.inl rfl, rfl⟩
theorem cl_ (h : bo_ n0 K0 P0 N0 ct lo oc kd dp su nm sx cu pa re cl si lt n K D P N L O) (hq : rq_ pg T q) {i : Nat} (hL : L = i + 1) (he : e ≤ T) (ha : a ≤ e) (hl : ∀ i, a ≤ i → i < e → 32 ≤ q i ∧ q i ≤ 126) (pl tk : Int32) (rd : Nat → Int32) :
    (∃ (r1 s1 l1 o1 : Int32) (kd1 : Nat → Int32) (m2 t2 : Int32) (rd2 : Nat → Int32), fn_E_takeSuiteEnd (nI e) pg ct dp su nm (nI a) lo oc kd = some (r1, s1, l1, o1, kd1) ∧ (r1 = 0 ∨ (r1 = 1 ∧ s1 ≠ nI e)) ∧ fn_M_closing (nI e) cu pa re si lt pg (nI a) sx pl tk cl rd = some (0, m2, sx, pl, t2, cl, rd2)) ∨
    (∃ (l1 o1 : Int32) (kd1 : Nat → Int32) (m2 x2 t2 : Int32) (cl2 rd2 : Nat → Int32) (k : Nat), fn_E_takeSuiteEnd (nI e) pg ct dp su nm (nI a) lo oc kd = some (1, nI e, l1, o1, kd1) ∧ fn_M_closing (nI e) cu pa re si lt pg (nI a) sx pl tk cl rd = some (1, m2, x2, 0, t2, cl2, rd2) ∧ bo_ n0 K0 P0 N0 ct l1 o1 kd1 dp su nm x2 cu pa re cl2 si lt n (pq_up K i k) D P N (P i) (O - 1)) := by
  subst hL
  have hT := hq.1
  have hn := iv_n h.1
  have hin := (iv_12 h.1 i rfl).1
  have h6 := (iv_12 h.1 i rfl).2
  have sxi : sx = nI i := by rw [h.2.2.2.2.1, pu_rs]
  have hD := iv_9 h.1 i hin
  obtain ⟨k, l', o', kd', hk, e1, e2⟩ := px_close h.2.1 h.1
  obtain ⟨d1, d2, d3⟩ := bo_depth h (i := i) rfl
  obtain ⟨i1, i2⟩ := rk_indent hq (d := D i) (by omega) ha he
  obtain ⟨s1, s2⟩ := rm_spaces hq (d := D i) (by omega) ha he
  have new : bo_ n0 K0 P0 N0 ct l' o' kd' dp su nm (pu_r (P i)) cu pa re (upd cl (24 * 1 + i) 1) si lt n (pq_up K i k) D P N (P i) (O - 1) := ⟨iv_close h.1 hk, e2, px_refClose (g := 1) h.2.2.1 hin (by omega) (by omega), r0_close h.2.2.2.1 h.2.2.2.2.2.1 i 1, rfl, h.2.2.2.2.2⟩
  have kk : fn_R_kindOf (nI n) kd' (nI i) = some (nI k) := by
    have := pc_kindIn hn hin e2.2.2.2.1
    rw [pq_us] at this
    exact this
  have gd : ∀ bb : Bool, (bb = true ↔ k = 4) → fn_M_good cu pa re 1 sx = some (pu_b bb) := by
    intro bb hbb
    rw [sxi]
    refine pm_good (g := 1) (by omega) hn hin (iv_6 h.1) (iv_5 h.1) h.2.2.1.1 h.2.2.1.2.1 h.2.2.1.2.2.1 ?_
    rw [hbb]
    constructor
    · intro k4 j j1 j2 j3
      rcases hk with ⟨w, _⟩ | ⟨_, w⟩
      · omega
      · exact w j j1 j2
    · intro z
      rcases hk with ⟨w, j, j1, j2, j3⟩ | ⟨w, _⟩
      · exact absurd j3 (z j j1 j2 (h.1.2.2.2.2.2.2.1 i j j1 j2 h6))
      · exact w
  unfold fn_E_takeSuiteEnd fn_R_innermost fn_M_closing
  rw [Option.bind_some, e1, Option.bind_some, d1, Option.bind_some, h.2.1.2.1, pu_rs]
  dsimp only
  have dc : fn_R_depthOf ct dp (nI i) = some (nI (D i)) := by rw [h.2.1.1]; exact pc_depthIn hn hin h.2.1.2.2.2.2.1
  rw [dc, Option.bind_some]
  by_cases z1 : mt_ q e a (in_d (D i))
  · have y1 : a + 4 * D i ≤ e := by have := z1.1; rw [in_len] at this; exact this
    rw [i1 z1, s1 z1, Option.bind_some, Option.bind_some]
    dsimp only
    have kk' : fn_R_kindOf ct kd' (nI i) = some (nI k) := by rw [h.2.1.1]; exact kk
    rw [if_neg n10_, if_neg n10_, kk', Option.bind_some]
    by_cases k4 : k = 4
    · rw [gd true (by simp [k4]), Option.bind_some, if_pos (show nI k = 4 by rw [k4]; rfl), if_neg (by decide)]
      rcases cl_57 h hq (b := a + 4 * D i) rfl he y1 (fun j j1 j2 => hl j (by omega) j2) (y := 1) (Or.inl rfl) l' o' kd' pl tk rd with ⟨r1, t1, m2, t2, rd2, A, hr, B⟩ | ⟨m2, t2, rd2, A, B⟩
      · exact Or.inl ⟨_, _, _, _, _, _, _, _, A, hr, B⟩
      · exact Or.inr ⟨_, _, _, _, _, _, _, _, k, A, B, new⟩
    · have hk5 : k = 5 := by rcases hk with ⟨w, _⟩ | ⟨w, _⟩ <;> omega
      rw [gd false (by simp [k4]), Option.bind_some, if_neg (show ¬ nI k = 4 by rw [hk5]; decide), if_pos (by decide)]
      rcases cl_57 h hq (b := a + 4 * D i) rfl he y1 (fun j j1 j2 => hl j (by omega) j2) (y := 2) (Or.inr rfl) l' o' kd' pl tk rd with ⟨r1, t1, m2, t2, rd2, A, hr, B⟩ | ⟨m2, t2, rd2, A, B⟩
      · exact Or.inl ⟨_, _, _, _, _, _, _, _, A, hr, B⟩
      · exact Or.inr ⟨_, _, _, _, _, _, _, _, k, A, B, new⟩
  · obtain ⟨x, f1⟩ := i2 z1
    obtain ⟨x2, f2⟩ := s2 z1
    rw [f1, f2, Option.bind_some, Option.bind_some]
    dsimp only
    rw [if_pos z00_, if_pos z00_, c93_0]
    exact Or.inl ⟨_, _, _, _, _, _, _, _, rfl, Or.inl rfl, rfl⟩
theorem line_ (h : bo_ n0 K0 P0 N0 ct lo oc kd dp su nm sx cu pa re cl si lt n K D P N L O) {sg pl ov : Int32} (hm : md_ sg pl ov L) (hq : rq_ pg T q) (he : e ≤ T) (ha : a ≤ e) (hl : ∀ i, a ≤ i → i < e → 32 ≤ q i ∧ q i ≤ 126) (mt tk : Int32) (rd : Nat → Int32) :
    lr_ n0 K0 P0 N0 e cu pa re cl si lt (fn_E_takeLine (nI e) pg sg (nI a) ct lo oc kd dp su nm) (fn_M_line (nI e) pg mt sx pl ov tk cu pa re cl si lt rd (nI a)) := by
  have hn := iv_n h.1
  have hLn := h.1.1.2.1
  unfold fn_E_takeLine fn_M_line
  rcases hm with ⟨m1, m2, m3⟩ | ⟨m1, m2, m3, m4⟩ | ⟨m1, m3⟩
  · rw [m1, m2, m3, if_neg n10_, if_pos (show (1 : Int32) = 1 from rfl), if_pos z00_, if_pos z00_]
    have B0 : (if 0 ≤ sx then Option.bind (fn_M_depthOf pa 1 sx) fun o_43 => fb_M_line_48 (nI e) pg (nI a) sx 0 0 tk cu pa re cl si lt rd (nI a) (o_43 + 1) else fb_M_line_48 (nI e) pg (nI a) sx 0 0 tk cu pa re cl si lt rd (nI a) 0) = fb_M_line_48 (nI e) pg (nI a) sx 0 0 tk cu pa re cl si lt rd (nI a) (nI O) := by
      cases hL : L with
      | zero =>
        have := (bo_LO h).mp hL
        rw [if_neg (fun z => by rw [h.2.2.2.2.1] at z; exact (pu_rpos (by omega)).mp z hL), this]
        rfl
      | succ i =>
        obtain ⟨d1, d2, d3⟩ := bo_depth h hL
        rw [if_pos (show 0 ≤ sx by rw [h.2.2.2.2.1]; exact (pu_rpos (by omega)).mpr (by omega)), d1, Option.bind_some, nI_1, ← d2]
    rw [B0]
    rcases row_ h hq he ha hl (nI a) tk rd with ⟨r1, g1, s1, c1, l1, o1, kd1, dp1, su1, nm1, mm2, x2, p2, v2, t2, rd2, A, hr, B⟩ | ⟨g1, c1, l1, o1, kd1, dp1, su1, nm1, mm2, x2, p2, v2, t2, cu2, pa2, re2, cl2, si2, lt2, rd2, n', K', D', P', N', L', O', A, B, hbo, hmd⟩
    · rw [A, B, Option.bind_some]
      dsimp only
      have : jv_zb r1 = true := by rcases hr with w | w; rw [w]; rfl; rw [w.1]; rfl
      rw [jv_gp this]
      exact Or.inl ⟨_, _, _, _, _, _, _, _, _, _, _, _, _, _, _, _, rfl, hr, rfl⟩
    · rw [A, B, Option.bind_some]
      dsimp only
      rw [pz_1]
      exact Or.inr ⟨_, _, _, _, _, _, _, _, _, _, _, _, _, _, _, _, _, _, _, _, _, _, _, _, _, _, _, rfl, rfl, hbo, hmd⟩
  · obtain ⟨i, hL⟩ : ∃ i, L = i + 1 := ⟨L - 1, by omega⟩
    rw [m1, m2, m3, if_neg (show ¬ (2 : Int32) = 0 by decide), if_neg (show ¬ (2 : Int32) = 1 by decide), if_pos (show (2 : Int32) = 2 from rfl), if_pos z00_, if_neg n10_]
    rcases cl_ h hq hL he ha hl 1 tk rd with ⟨r1, s1, l1, o1, kd1, mm2, t2, rd2, A, hr, B⟩ | ⟨l1, o1, kd1, mm2, x2, t2, cl2, rd2, k, A, B, hbo⟩
    · rw [A, B, Option.bind_some, Option.bind_some]
      dsimp only
      have : jv_zb r1 = true := by rcases hr with w | w; rw [w]; rfl; rw [w.1]; rfl
      rw [jv_gp this, pz_0]
      exact Or.inl ⟨_, _, _, _, _, _, _, _, _, _, _, _, _, _, _, _, rfl, hr, rfl⟩
    · rw [A, B, Option.bind_some, Option.bind_some]
      dsimp only
      rw [pz_1, pz_1]
      exact Or.inr ⟨_, _, _, _, _, _, _, _, _, _, _, _, _, _, _, _, _, _, _, _, _, _, _, _, _, _, _, rfl, rfl, hbo, Or.inl ⟨rfl, rfl, rfl⟩⟩
  · rw [m1, m3, if_neg (show ¬ (3 : Int32) = 0 by decide), if_neg (show ¬ (3 : Int32) = 1 by decide), if_neg (show ¬ (3 : Int32) = 2 by decide), if_neg n10_]
    exact Or.inl ⟨_, _, _, _, _, _, _, _, _, _, _, _, _, _, _, _, rfl, Or.inl rfl, rfl⟩
end Cl
