/-! Pure rows: a page read on both sides. -/
def ro_ (n0 : Nat) (K0 P0 : Nat → Nat) (N0 : Nat → List Nat) (A : Option (Int32 × Int32 × Int32 × Int32 × Int32 × Int32 × Int32 × (Nat → Int32) × (Nat → Int32) × (Nat → Int32) × (Nat → Int64))) (B : Option (Int32 × Int32 × Int32 × Int32 × Int32 × Int32 × Int32 × (Nat → Int32) × (Nat → Int32) × (Nat → Int32) × (Nat → Int32) × (Nat → Int32) × (Nat → Int32) × (Nat → Int32))) : Prop :=
  (∃ (m : Nat) (g1 s1 e1 c1 l1 o1 : Int32) (kd1 dp1 su1 : Nat → Int32) (nm1 : Nat → Int64) (m2 e2 x2 p2 v2 t2 : Int32) (cu2 pa2 re2 cl2 si2 lt2 rd2 : Nat → Int32), A = some (-(nI m), g1, s1, e1, c1, l1, o1, kd1, dp1, su1, nm1) ∧ B = some (-(nI m), m2, e2, x2, p2, v2, t2, cu2, pa2, re2, cl2, si2, lt2, rd2) ∧ (1 ≤ m ∧ m ≤ 3001) ∧ rm_ 0 n0 K0 P0 N0 cu2 pa2 re2 cl2 si2 lt2) ∨
  (∃ (g1 s1 e1 c1 l1 o1 : Int32) (kd1 dp1 su1 : Nat → Int32) (nm1 : Nat → Int64) (m2 e2 x2 p2 v2 t2 : Int32) (cu2 pa2 re2 cl2 si2 lt2 rd2 : Nat → Int32) (n : Nat) (K D P : Nat → Nat) (N : Nat → List Nat) (L O : Nat), A = some (0, g1, s1, e1, c1, l1, o1, kd1, dp1, su1, nm1) ∧ B = some (0, m2, e2, x2, p2, v2, t2, cu2, pa2, re2, cl2, si2, lt2, rd2) ∧ iv_ n K D P N L O ∧ rc_ n K D P N L O c1 l1 o1 kd1 dp1 su1 nm1 ∧ rm_ 0 n K P N cu2 pa2 re2 cl2 si2 lt2)
section Lo
variable {n0 : Nat} {K0 P0 : Nat → Nat} {N0 : Nat → List Nat} {pg : Nat → Int32} {T : Nat} {q : Nat → Nat}
theorem r28_0 {cu pa re cl si lt rd : Nat → Int32} (F : Nat) (hF : 0 < F) (mt en sx pl ov tk x1 x2 : Int32) : fl_M_read_28 (nI T) pg F (mt, en, sx, pl, ov, tk, cu, pa, re, cl, si, lt, rd, x1, x2, 0) = some (-x2, mt, en, sx, pl, ov, tk, cu, pa, re, cl, si, lt, rd) := by
  cases F with
  | zero => omega
  | succ F =>
    rw [fs_M_read_28]
    unfold fb_M_read_28 fb_M_read_157
    rw [if_pos z00_, if_pos z00_]
theorem rd_loop (hq : rq_ pg T q) (hq2 : ∀ i, i < T → q i ≠ 10 → 32 ≤ q i ∧ q i ≤ 126) : ∀ (d a m F1 F2 : Nat) (ct lo oc : Int32) (kd dp su : Nat → Int32) (nm : Nat → Int64) (sx : Int32) (cu pa re cl si lt : Nat → Int32) (n : Nat) (K D P : Nat → Nat) (N : Nat → List Nat) (L O : Nat) (sg pl ov sp le mt en tk : Int32) (rd : Nat → Int32),
    a ≤ T → T - a ≤ d → d < F1 → d + 1 < F2 → 2 ≤ m → m ≤ a + 1 → le + 1 = nI a → bo_ n0 K0 P0 N0 ct lo oc kd dp su nm sx cu pa re cl si lt n K D P N L O → md_ sg pl ov L →
    ro_ n0 K0 P0 N0 (fl_E_readAll_9 (nI T) pg F1 (sg, sp, le, ct, lo, oc, kd, dp, su, nm, nI m)) (fl_M_read_28 (nI T) pg F2 (mt, en, sx, pl, ov, tk, cu, pa, re, cl, si, lt, rd, nI a, nI m, 1)) := by
  have hT := hq.1
  intro d
  induction d with
  | zero =>
    intro a m F1 F2 ct lo oc kd dp su nm sx cu pa re cl si lt n K D P N L O sg pl ov sp le mt en tk rd haT hd hF1 hF2 hm1 hm2 hle h hmd
    have haT : a = T := by omega
    cases F1 with
    | zero => omega
    | succ F1 =>
      cases F2 with
      | zero => omega
      | succ F2 =>
        have e1 : fl_E_readAll_9 (nI T) pg (F1 + 1) (sg, sp, le, ct, lo, oc, kd, dp, su, nm, nI m) = fb_E_readAll_62 (nI T) pg sg sp le ct lo oc kd dp su nm (nI m) := by
          rw [fs_E_readAll_9]
          unfold fb_E_readAll_9 fn_C_isBehindLastLine
          rw [hle, haT, if_neg (nI_nlt (Nat.le_refl T) (by omega)), Option.bind_some, if_neg n10_]
          by_cases z : (3000 : Int32) < nI m
          · rw [if_pos z]
          · rw [if_neg z]
        rw [e1, fs_M_read_28]
        unfold fb_M_read_28 fb_E_readAll_62
        rw [if_neg n10_, if_pos (nI_le (by omega) (by omega))]
        unfold fb_M_read_157
        rw [if_neg n10_]
        rcases hmd with ⟨z1, z2, z3⟩ | ⟨z1, z2, z3, z4⟩ | ⟨z1, z3⟩
        · rw [z1, z3, if_neg (by decide), if_pos z00_]
          exact Or.inl ⟨m, _, _, _, _, _, _, _, _, _, _, _, _, _, _, _, _, _, _, _, _, _, _, _, rfl, rfl, ⟨by omega, by omega⟩, h.2.2.2.1⟩
        · rw [z1, z3, if_neg (by decide), if_pos z00_]
          exact Or.inl ⟨m, _, _, _, _, _, _, _, _, _, _, _, _, _, _, _, _, _, _, _, _, _, _, _, rfl, rfl, ⟨by omega, by omega⟩, h.2.2.2.1⟩
        · obtain ⟨cu', pa', re', cl', si', lt', f1, f2⟩ := ad_ h.2.2.1 (iv_n h.1) (iv_N h.1)
          rw [z1, z3, if_pos rfl, if_neg n10_, f1, Option.bind_some]
          exact Or.inr ⟨_, _, _, _, _, _, _, _, _, _, _, _, _, _, _, _, _, _, _, _, _, _, _, n, K, D, P, N, L, O, rfl, rfl, h.1, h.2.1, f2⟩
  | succ d ih =>
    intro a m F1 F2 ct lo oc kd dp su nm sx cu pa re cl si lt n K D P N L O sg pl ov sp le mt en tk rd haT hd hF1 hF2 hm1 hm2 hle h hmd
    by_cases hlast : T - a ≤ d
    · exact ih a m F1 F2 ct lo oc kd dp su nm sx cu pa re cl si lt n K D P N L O sg pl ov sp le mt en tk rd haT hlast (by omega) (by omega) hm1 hm2 hle h hmd
    · have haT : a < T := by omega
      cases F1 with
      | zero => omega
      | succ F1 =>
        cases F2 with
        | zero => omega
        | succ F2 =>
          rw [fs_E_readAll_9, fs_M_read_28]
          unfold fb_E_readAll_9 fb_M_read_28 fn_C_isBehindLastLine fn_C_goToNextLine
          rw [if_neg (show ¬ (3000 : Int32) < nI m from nI_nlt (a := 3000) (by omega) (by omega)), hle, if_pos (nI_lt haT (by omega)), Option.bind_some, if_pos z00_, if_neg n10_, if_neg (nI_ge haT (by omega))]
          rcases nl_dec q T (T - a) a (by omega) with ⟨e, n1, n2, n3, n4⟩ | n4
          · rw [nl_cls hq (e := e) (by omega) (fun _ => n3) (nI a) le (e - a) a 4000 (by omega) (by omega) n4, Option.bind_some, nl_ref hq (e := e) (by omega) (fun _ => n3) _ mt sx pl ov tk cu pa re cl si lt rd (nI a) (nI m) (e - a) a 4000 (by omega) (by omega) n4]
            dsimp only
            rw [if_pos n2, if_neg n10_]
            unfold fb_M_read_83
            rw [if_neg (nI_ge n2 (by omega)), if_neg (show ¬ nI m = 1 from fun z => by have := (nI_eq (b := 1) (by omega) (by omega)).mp z; omega)]
            rcases line_ h hmd hq (a := a) (e := e) (by omega) n1 (fun i i1 i2 => hq2 i (by omega) (n4 i i1 i2)) (nI a) tk rd with ⟨r1, g1, s1, c1, l1, o1, kd1, dp1, su1, nm1, mm2, x2, p2, v2, t2, rd2, A, hr, B⟩ | ⟨g1, c1, l1, o1, kd1, dp1, su1, nm1, mm2, x2, p2, v2, t2, cu2, pa2, re2, cl2, si2, lt2, rd2, n', K', D', P', N', L', O', A, B, hbo, hmd'⟩
            · rw [A, B, Option.bind_some, Option.bind_some]
              dsimp only
              unfold fb_M_read_139
              rw [if_pos z00_, if_pos z00_, r28_0 F2 (by omega)]
              rcases hr with w | ⟨w, w2⟩
              · rw [w, if_pos z00_]
                exact Or.inl ⟨m, _, _, _, _, _, _, _, _, _, _, _, _, _, _, _, _, _, _, _, _, _, _, _, rfl, rfl, ⟨by omega, by omega⟩, h.2.2.2.1⟩
              · unfold fn_C_isAtLineEnd
                rw [w, if_neg n10_, if_neg w2, Option.bind_some, if_pos z00_]
                exact Or.inl ⟨m, _, _, _, _, _, _, _, _, _, _, _, _, _, _, _, _, _, _, _, _, _, _, _, rfl, rfl, ⟨by omega, by omega⟩, h.2.2.2.1⟩
            · rw [A, B, Option.bind_some, Option.bind_some]
              dsimp only
              unfold fb_M_read_139 fn_C_isAtLineEnd
              rw [if_neg n10_, if_neg n10_, if_neg n10_, if_pos rfl, Option.bind_some, if_neg n10_, nI_1, nI_1]
              exact ih (e + 1) (m + 1) F1 F2 c1 l1 o1 kd1 dp1 su1 nm1 x2 cu2 pa2 re2 cl2 si2 lt2 n' K' D' P' N' L' O' g1 p2 v2 (nI e) (nI e) mm2 (nI e) t2 rd2 (by omega) (by omega) (by omega) (by omega) (by omega) (by omega) (nI_1 e) hbo hmd'
          · rw [nl_cls hq (e := T) (Nat.le_refl T) (fun z => by omega) (nI a) le (T - a) a 4000 (by omega) (by omega) n4, Option.bind_some, nl_ref hq (e := T) (Nat.le_refl T) (fun z => by omega) _ mt sx pl ov tk cu pa re cl si lt rd (nI a) (nI m) (T - a) a 4000 (by omega) (by omega) n4]
            dsimp only
            rw [if_neg (Nat.lt_irrefl T), if_pos z00_]
            unfold fb_M_read_83 fb_M_read_139
            rw [if_pos (nI_le (Nat.le_refl T) (by omega)), if_pos z00_, r28_0 F2 (by omega)]
            exact Or.inl ⟨m, _, _, _, _, _, _, _, _, _, _, _, _, _, _, _, _, _, _, _, _, _, _, _, rfl, rfl, ⟨by omega, by omega⟩, h.2.2.2.1⟩
theorem rd_first (hq : rq_ pg T q) (hq2 : ∀ i, i < T → q i ≠ 10 → 32 ≤ q i ∧ q i ≤ 126) (kd dp su : Nat → Int32) (nm : Nat → Int64) (cu pa re cl si lt : Nat → Int32) (mt en tk : Int32) (rd : Nat → Int32) (h0 : rm_ 0 n0 K0 P0 N0 cu pa re cl si lt) (h24 : n0 ≤ 24) (h6 : ∀ k, k < n0 → (N0 k).length ≤ 6) :
    ro_ n0 K0 P0 N0 (fl_E_readAll_9 (nI T) pg 4000 (0, 0, -1, 0, -1, 0, kd, dp, su, nm, 1)) (fl_M_read_28 (nI T) pg 4000 (mt, en, -1, 0, 0, tk, upd cu 1 0, pa, re, cl, si, lt, rd, 0, 1, 1)) := by
  have hT := hq.1
  have h0' : rm_ 0 n0 K0 P0 N0 (upd cu 1 0) pa re cl si lt := ⟨by rw [pk_un (by omega)]; exact h0.1, h0.2⟩
  have le0 : (-1 : Int32) + 1 = nI 0 := rfl
  rw [show fl_E_readAll_9 (nI T) pg 4000 (0, 0, -1, 0, -1, 0, kd, dp, su, nm, 1) = _ from fs_E_readAll_9 _ _ 3999 _ _ _ _ _ _ _ _ _ _ _, show fl_M_read_28 (nI T) pg 4000 (mt, en, -1, 0, 0, tk, upd cu 1 0, pa, re, cl, si, lt, rd, 0, 1, 1) = _ from fs_M_read_28 _ _ 3999 _ _ _ _ _ _ _ _ _ _ _ _ _ _ _ _]
  unfold fb_E_readAll_9 fb_M_read_28 fn_C_isBehindLastLine fn_C_goToNextLine
  rw [if_neg (by decide), le0, if_neg n10_]
  have fin : ∀ (g1 s1 e1 c1 l1 o1 : Int32) (kd1 dp1 su1 : Nat → Int32) (nm1 : Nat → Int64) (m2 e2 x2 p2 v2 t2 : Int32) (rd2 : Nat → Int32), ro_ n0 K0 P0 N0 (some (-1, g1, s1, e1, c1, l1, o1, kd1, dp1, su1, nm1)) (some (-1, m2, e2, x2, p2, v2, t2, upd cu 1 0, pa, re, cl, si, lt, rd2)) := fun _ _ _ _ _ _ _ _ _ _ _ _ _ _ _ _ _ => Or.inl ⟨1, _, _, _, _, _, _, _, _, _, _, _, _, _, _, _, _, _, _, _, _, _, _, _, rfl, rfl, ⟨by omega, by omega⟩, h0'⟩
  by_cases hT0 : T = 0
  · rw [if_neg (nI_nlt (by omega) (by omega)), Option.bind_some, if_neg n10_, if_pos (show nI T ≤ 0 by rw [hT0]; decide)]
    unfold fb_E_readAll_62 fb_M_read_157
    rw [if_neg (by decide), if_neg n10_, if_pos z00_]
    exact fin _ _ _ _ _ _ _ _ _ _ _ _ _ _ _ _ _
  · rw [if_pos (nI_lt (show 0 < T by omega) (by omega)), Option.bind_some, if_pos z00_, show (0 : Int32) = nI 0 from rfl, if_neg (nI_ge (show 0 < T by omega) (by omega)), show nI 0 = (0 : Int32) from rfl]
    rcases nl_dec q T T 0 (by omega) with ⟨e, n1, n2, n3, n4⟩ | n4
    · have A0 := nl_cls hq (e := e) (by omega) (fun _ => n3) 0 (-1) e 0 4000 (by omega) (by omega) n4
      have B0 := nl_ref hq (e := e) (by omega) (fun _ => n3) (fl_M_read_28 (nI T) pg 3999) mt (-1) 0 0 tk (upd cu 1 0) pa re cl si lt rd 0 1 e 0 4000 (by omega) (by omega) n4
      rw [show nI 0 = (0 : Int32) from rfl] at A0 B0
      rw [A0, Option.bind_some, B0]
      dsimp only
      rw [if_pos n2, if_neg n10_]
      unfold fb_M_read_83 fn_E_takeLine
      obtain ⟨t1, t2⟩ := rk_text hq (i := 0) (e := e) (s := 0) (by omega) n1 (by omega)
      obtain ⟨u1, u2⟩ := rm_text hq (w := 0) (e := e) (s := 0) (by omega) n1 (by omega)
      have t1 : mt_ q e 0 (tx_ 0) → fn_C_skipText (nI e) pg 0 0 = some (1, nI (0 + (tx_ 0).length)) := t1
      have t2 : ¬ mt_ q e 0 (tx_ 0) → fn_C_skipText (nI e) pg 0 0 = some (0, 0) := t2
      have u1 : mt_ q e 0 (tx_ 0) → fn_M_eat (nI e) pg 0 0 = some (1, nI (0 + (tx_ 0).length)) := u1
      have u2 : ¬ mt_ q e 0 (tx_ 0) → fn_M_eat (nI e) pg 0 0 = some (0, 0) := u2
      rw [if_pos z00_, if_neg (nI_ge n2 (by omega)), if_pos (show (1 : Int32) = 1 from rfl)]
      by_cases z : mt_ q e 0 (tx_ 0)
      · have zl := z.1
        rw [t1 z, u1 z, Option.bind_some, Option.bind_some]
        dsimp only
        rw [pz_1, Option.bind_some]
        dsimp only
        rw [if_neg n10_, if_neg n10_]
        unfold fn_C_isAtLineEnd
        by_cases z4 : 0 + (tx_ 0).length = e
        · rw [z4, if_pos rfl, if_pos rfl, Option.bind_some, if_neg n10_]
          unfold fb_M_read_139
          rw [if_neg n10_, show (1 : Int32) + 1 = nI 2 from rfl, nI_1]
          exact rd_loop hq hq2 (T - (e + 1)) (e + 1) 2 3999 3999 0 (-1) 0 kd dp su nm (-1) (upd cu 1 0) pa re cl si lt 0 (fun _ => 0) (fun _ => 0) (fun _ => 0) (fun _ => []) 0 0 1 0 0 (nI e) (nI e) (nI e) (nI e) tk rd (by omega) (Nat.le_refl _) (by omega) (by omega) (by omega) (by omega) (nI_1 e)
            ⟨iv_new _ _ _ _, ⟨rfl, rfl, rfl, fun k y => by omega, fun k y => by omega, fun k y => by omega, fun k y => by omega⟩, ⟨pk_us, fun k y => by omega, fun k y => by omega, fun k y => by omega, fun k y => by omega, fun k y => by omega⟩, h0', rfl, h24, h6⟩ (Or.inl ⟨rfl, rfl, rfl⟩)
        · have ne : ¬ nI (0 + (tx_ 0).length) = nI e := fun y => z4 ((nI_eq (by omega) (by omega)).mp y)
          rw [if_neg ne, if_neg ne, Option.bind_some, if_pos z00_]
          unfold fb_M_read_139
          rw [if_pos z00_, r28_0 3999 (by omega)]
          exact fin _ _ _ _ _ _ _ _ _ _ _ _ _ _ _ _ _
      · rw [t2 z, u2 z, Option.bind_some, Option.bind_some]
        dsimp only
        rw [pz_0, Option.bind_some]
        dsimp only
        rw [if_pos z00_, if_pos z00_]
        unfold fb_M_read_139
        rw [if_pos z00_, r28_0 3999 (by omega)]
        exact fin _ _ _ _ _ _ _ _ _ _ _ _ _ _ _ _ _
    · have A0 := nl_cls hq (e := T) (Nat.le_refl T) (fun z => by omega) 0 (-1) T 0 4000 (by omega) (by omega) n4
      have B0 := nl_ref hq (e := T) (Nat.le_refl T) (fun z => by omega) (fl_M_read_28 (nI T) pg 3999) mt (-1) 0 0 tk (upd cu 1 0) pa re cl si lt rd 0 1 T 0 4000 (by omega) (by omega) n4
      rw [show nI 0 = (0 : Int32) from rfl] at A0 B0
      rw [A0, Option.bind_some, B0]
      dsimp only
      rw [if_neg (Nat.lt_irrefl T), if_pos z00_]
      unfold fb_M_read_83 fb_M_read_139
      rw [if_pos (nI_le (Nat.le_refl T) (by omega)), if_pos z00_, r28_0 3999 (by omega)]
      exact fin _ _ _ _ _ _ _ _ _ _ _ _ _ _ _ _ _
end Lo
theorem ng_ne : ∀ m, m < 3002 → 1 ≤ m → ¬ -(nI m) = 0 := by
  intro m h1 h2 h
  have e : nI m = 0 := by
    have := congrArg (fun x => -x) h
    simpa using this
  exact nI_ne0 (by omega) (by omega) e
section Sr
variable {bn : Int64} {zp : Int32} {ch : Nat → Int32} {ct lo oc : Int32} {kd dp su : Nat → Int32} {nm : Nat → Int64} {bg ln : Int32} {na cu pa re cl si lt pg : Nat → Int32}
theorem st_read (h : st_ bn zp ch ct lo oc kd dp su nm bg ln na cu pa re cl si lt pg) (ct2 lo2 oc2 : Int32) (kd2 dp2 su2 : Nat → Int32) (nm2 : Nat → Int64) (mt en sx pl ov tk : Int32) (rd : Nat → Int32) :
    ∃ o1 o2, fn_V_read zp ch ct lo oc kd dp su nm ct2 lo2 oc2 kd2 dp2 su2 nm2 = some o1 ∧ fn_M_read ln pg mt en sx pl ov tk cu pa re cl si lt rd = some o2 ∧ o1.1 = o2.1 ∧ st_ bn zp ch o1.2.1 o1.2.2.1 o1.2.2.2.1 o1.2.2.2.2.1 o1.2.2.2.2.2.1 o1.2.2.2.2.2.2.1 o1.2.2.2.2.2.2.2.1 bg ln na o2.2.2.2.2.2.2.2.1 o2.2.2.2.2.2.2.2.2.1 o2.2.2.2.2.2.2.2.2.2.1 o2.2.2.2.2.2.2.2.2.2.2.1 o2.2.2.2.2.2.2.2.2.2.2.2.1 o2.2.2.2.2.2.2.2.2.2.2.2.2.1 pg := by
  obtain ⟨n, K, D, P, N, L, O, B, T, hv, hc, hm, hb, p1, p2, p3, p4, p5⟩ := id h
  have hq1 : ∀ i, i < T → pg i = nI ((pg i).toNatClampNeg) ∧ ((pg i).toNatClampNeg = 10 ∨ (32 ≤ (pg i).toNatClampNeg ∧ (pg i).toNatClampNeg ≤ 126)) := by
    intro i hi
    obtain ⟨c, c1, c2⟩ := p5 i hi
    rw [c2, nI_clamp (by omega)]
    exact ⟨rfl, c1⟩
  have hq : rq_ pg T (fun i => (pg i).toNatClampNeg) := ⟨p1, fun i hi => by
    have := hq1 i hi
    refine ⟨this.1, ?_⟩
    show 10 ≤ (pg i).toNatClampNeg ∧ (pg i).toNatClampNeg ≤ 126
    omega⟩
  have hq2 : ∀ i, i < T → (fun i => (pg i).toNatClampNeg) i ≠ 10 → 32 ≤ (fun i => (pg i).toNatClampNeg) i ∧ (fun i => (pg i).toNatClampNeg) i ≤ 126 := by
    intro i hi hne
    rcases (hq1 i hi).2 with w | w
    · exact absurd w hne
    · exact w
  have r := rd_first hq hq2 kd2 dp2 su2 nm2 cu pa re cl si lt mt en tk rd hm (iv_n hv) (fun k hk => (iv_N hv k hk).1)
  have eV : fn_V_read zp ch ct lo oc kd dp su nm ct2 lo2 oc2 kd2 dp2 su2 nm2 = Option.bind (fl_E_readAll_9 (nI T) pg 4000 (0, 0, -1, 0, -1, 0, kd2, dp2, su2, nm2, 1)) fun o_18 =>
  if o_18.1 = 0 then
    some (o_18.1, o_18.2.2.2.2.1, o_18.2.2.2.2.2.1, o_18.2.2.2.2.2.2.1, o_18.2.2.2.2.2.2.2.1, o_18.2.2.2.2.2.2.2.2.1, o_18.2.2.2.2.2.2.2.2.2.1, o_18.2.2.2.2.2.2.2.2.2.2, ct, lo, oc, kd, dp, su, nm)
  else
    some (o_18.1, ct, lo, oc, kd, dp, su, nm, o_18.2.2.2.2.1, o_18.2.2.2.2.2.1, o_18.2.2.2.2.2.2.1, o_18.2.2.2.2.2.2.2.1, o_18.2.2.2.2.2.2.2.2.1, o_18.2.2.2.2.2.2.2.2.2.1, o_18.2.2.2.2.2.2.2.2.2.2) := by
    unfold fn_V_read fn_P_cursor fn_C_init fn_E_init fn_E_readAll fn_R_removeAll
    rw [p2, p4, Option.bind_some, Option.bind_some, Option.bind_some, Option.bind_some]
  have eM : fn_M_read ln pg mt en sx pl ov tk cu pa re cl si lt rd = fl_M_read_28 (nI T) pg 4000 (mt, en, -1, 0, 0, tk, upd cu 1 0, pa, re, cl, si, lt, rd, 0, 1, 1) := by
    unfold fn_M_read
    rw [p3, jv_gp (by decide), c1_]
  rw [eV, eM]
  rcases r with ⟨m, g1, s1, e1, c1, l1, o1, kd1, dp1, su1, nm1, m2, e2, x2, q2, v2, t2, cu2, pa2, re2, cl2, si2, lt2, rd2, A, B', ⟨hm1, hm2⟩, hr⟩ | ⟨g1, s1, e1, c1, l1, o1, kd1, dp1, su1, nm1, m2, e2, x2, q2, v2, t2, cu2, pa2, re2, cl2, si2, lt2, rd2, n', K', D', P', N', L', O', A, B', hv', hc', hm'⟩
  · rw [A, B', Option.bind_some]
    dsimp only
    rw [if_neg (ng_ne m (by omega) hm1)]
    exact ⟨_, _, rfl, rfl, rfl, n, K, D, P, N, L, O, B, T, hv, hc, hr, hb, p1, p2, p3, p4, p5⟩
  · rw [A, B', Option.bind_some]
    dsimp only
    rw [if_pos z00_]
    exact ⟨_, _, rfl, rfl, rfl, n', K', D', P', N', L', O', B, T, hv', hc', hm', hb, p1, p2, p3, p4, p5⟩
end Sr
