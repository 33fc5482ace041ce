/-! Pure rows: a test's line behind its verdict, on both sides. -/
theorem tx_ne : ∀ i, i < 10 → 0 < (tx_ i).length := by decide +kernel
theorem mt_x {q : Nat → Nat} {e s : Nat} {a b : List Nat} (h : mt_ q e s a) (ha : 0 < a.length) (hb : 0 < b.length) (hn : a.getD 0 0 ≠ b.getD 0 0) : ¬ mt_ q e s b := fun z => hn ((h.2 0 ha).symm.trans (z.2 0 hb))
/-- one line taken by neither side, or by both -/
def tr_ (n0 : Nat) (K0 P0 : Nat → Nat) (N0 : Nat → List Nat) (e : Nat) (sx : Int32) (cu pa re cl si lt : Nat → Int32) (A : Option (Int32 × Int32 × Int32 × Int32 × Int32 × (Nat → Int32) × (Nat → Int32) × (Nat → Int32) × (Nat → Int64))) (B : Option (Int32 × Int32 × Int32 × Int32 × (Nat → Int32) × (Nat → Int32) × (Nat → Int32) × (Nat → Int32) × (Nat → Int32) × (Nat → Int32) × (Nat → Int32))) : Prop :=
  (∃ (r1 s1 c1 l1 o1 : Int32) (kd1 dp1 su1 : Nat → Int32) (nm1 : Nat → Int64) (m2 t2 : Int32) (rd2 : Nat → Int32), A = some (r1, s1, c1, l1, o1, kd1, dp1, su1, nm1) ∧ (r1 = 0 ∨ (r1 = 1 ∧ s1 ≠ nI e)) ∧ B = some (0, m2, sx, t2, cu, pa, re, cl, si, lt, rd2)) ∨
  (∃ (c1 l1 o1 : Int32) (kd1 dp1 su1 : Nat → Int32) (nm1 : Nat → Int64) (m2 x2 t2 : Int32) (cu2 pa2 re2 cl2 si2 lt2 rd2 : Nat → Int32) (n : Nat) (K D P : Nat → Nat) (N : Nat → List Nat) (L O : Nat), A = some (1, nI e, c1, l1, o1, kd1, dp1, su1, nm1) ∧ B = some (1, m2, x2, t2, cu2, pa2, re2, cl2, si2, lt2, rd2) ∧ bo_ n0 K0 P0 N0 c1 l1 o1 kd1 dp1 su1 nm1 x2 cu2 pa2 re2 cl2 si2 lt2 n K D P N L O)
section Rt
variable {n0 : Nat} {K0 P0 : Nat → Nat} {N0 : Nat → List Nat} {ct lo oc : Int32} {kd dp su : Nat → Int32} {nm : Nat → Int64} {sx : Int32} {cu pa re cl si lt : Nat → Int32} {n : Nat} {K D P : Nat → Nat} {N : Nat → List Nat} {L O : Nat} {pg : Nat → Int32} {T : Nat} {q : Nat → Nat}
theorem ra_69 (h : bo_ n0 K0 P0 N0 ct lo oc kd dp su nm sx cu pa re cl si lt n K D P N L O) {k : Nat} (hk : k < 4) (le sp : Int32) (l : List Nat) :
    ∃ (r1 c1 l1 o1 : Int32) (kd1 dp1 su1 : Nat → Int32) (nm1 : Nat → Int64), fb_E_takeTest_69 le pg sp ct lo oc kd dp su nm (lN (pu_k l)) (nI k) = some (r1, sp, c1, l1, o1, kd1, dp1, su1, nm1) ∧ (r1 = 0 ∨ r1 = 1) := by
  obtain ⟨hv, hc, hm, h0, hx, h24, hN0⟩ := h
  have hn := iv_n hv
  unfold fb_E_takeTest_69
  by_cases e : n = 24
  · rw [px_full (K6 := k) (O := O) (n := n) (by omega) hv.1.2.2 hn hc.1 hc.2.2.1 (Or.inl e), Option.bind_some]
    dsimp only
    rw [if_pos (by decide)]
    exact ⟨_, _, _, _, _, _, _, _, rfl, Or.inl rfl⟩
  · obtain ⟨c', l', o', kd', dp', su', nm', e1, e2⟩ := px_add (k := k) (l := l) hc (by omega) hv.1.2.2 (by omega)
    rw [e1, Option.bind_some]
    dsimp only
    rw [if_neg (nI_pos (by omega))]
    exact ⟨_, _, _, _, _, _, _, _, rfl, Or.inr rfl⟩
theorem ra_both (h : bo_ n0 K0 P0 N0 ct lo oc kd dp su nm sx cu pa re cl si lt n K D P N L O) {k e : Nat} (hk : k < 4) {l : List Nat} (hl : pu_ok l) {rd : Nat → Int32} (hr : ∀ i, i < l.length → rd i = nI (l.getD i 0)) (le en mt : Int32) :
    tr_ n0 K0 P0 N0 e sx cu pa re cl si lt (fb_E_takeTest_69 le pg (nI e) ct lo oc kd dp su nm (lN (pu_k l)) (nI k)) (fb_M_testLine_139 en pg mt sx (nI l.length) cu pa re cl si lt rd (nI k)) := by
  have hn := iv_n h.1
  by_cases e24 : n = 24
  · refine Or.inl ?_
    unfold fb_E_takeTest_69 fb_M_testLine_139
    rw [px_full (K6 := k) (O := O) (n := n) (by omega) h.1.1.2.2 hn h.2.1.1 h.2.1.2.2.1 (Or.inl e24), Option.bind_some, bo_full h e24, Option.bind_some]
    dsimp only
    rw [if_pos (by decide), if_pos rfl]
    exact ⟨_, _, _, _, _, _, _, _, _, _, _, _, rfl, Or.inl rfl, rfl⟩
  · obtain ⟨c', l', o', kd', dp', su', nm', sx', cu', pa', re', cl', si', lt', e1, e2, e3⟩ := bo_add h (show n < 24 by omega) (k := k) (w := k) (by omega) hl hr
    refine Or.inr ?_
    unfold fb_E_takeTest_69 fb_M_testLine_139
    rw [e1, Option.bind_some, e2, Option.bind_some]
    dsimp only
    rw [if_neg (nI_pos (by omega)), if_neg (by decide)]
    exact ⟨_, _, _, _, _, _, _, _, _, _, _, _, _, _, _, _, _, _, _, _, _, _, _, _, rfl, rfl, e3⟩
theorem ew_lt : ∀ e, e < 7 → ∀ c, c ≤ e → nI e - 7 < nI c := by decide
theorem ew_ (hq : rq_ pg T q) {e c w : Nat} (hw : w = 4 ∨ w = 5) (he : e ≤ T) (hc : c ≤ e) :
    ((c + 7 ≤ e ∧ mt_ q e (e - 7) (tx_ (mw_ w))) → fn_M_endsWith (nI e) pg (nI c) (nI c) (nI w) 7 = some (1, nI c) ∧ nI e - 7 = nI (e - 7)) ∧ (¬ (c + 7 ≤ e ∧ mt_ q e (e - 7) (tx_ (mw_ w))) → fn_M_endsWith (nI e) pg (nI c) (nI c) (nI w) 7 = some (0, nI c)) := by
  have hT := hq.1
  unfold fn_M_endsWith
  by_cases h7 : e < 7
  · refine ⟨fun z => by omega, fun _ => ?_⟩
    rw [if_pos (ew_lt e h7 c hc)]
  · have e7 : nI e - 7 = nI (e - 7) := pk_sub (a := e) (b := 7) (by omega)
    rw [e7]
    by_cases h1 : c + 7 ≤ e
    · rw [if_neg (nI_nlt (by omega) (by omega))]
      obtain ⟨t1, t2⟩ := rm_text hq (w := w) (e := e) (s := e - 7) (by omega) (by omega) he
      by_cases z : mt_ q e (e - 7) (tx_ (mw_ w))
      · rw [t1 z, Option.bind_some]
        dsimp only
        rw [if_neg (by decide)]
        exact ⟨fun _ => ⟨rfl, rfl⟩, fun y => absurd ⟨h1, z⟩ y⟩
      · rw [t2 z, Option.bind_some]
        dsimp only
        rw [if_pos rfl]
        exact ⟨fun y => absurd y.2 z, fun _ => rfl⟩
    · rw [if_pos (nI_lt (by omega) (by omega))]
      exact ⟨fun y => absurd y.1 h1, fun _ => rfl⟩
theorem rt_name (h : bo_ n0 K0 P0 N0 ct lo oc kd dp su nm sx cu pa re cl si lt n K D P N L O) (hq : rq_ pg T q) {e c : Nat} (he : e ≤ T) (hc : c ≤ e) (hl : ∀ i, c ≤ i → i < e → 32 ≤ q i ∧ q i ≤ 126) {x3 : Int32} {kb kx w : Nat} (hx : (x3 = 1 ∧ kb = 0 ∧ kx = 2 ∧ w = 4) ∨ (x3 = 0 ∧ kb = 1 ∧ kx = 3 ∧ w = 5)) (tk : Int32) (rd : Nat → Int32) :
    tr_ n0 K0 P0 N0 e sx cu pa re cl si lt
      (Option.bind (fn_C_takeName (nI e) pg (nI c)) fun o_48 =>
        Option.bind (fn_C_skipText (nI e) pg o_48.2 (mw_ w)) fun o_58 =>
        if o_58.1 = 0 then
          fb_E_takeTest_69 (nI e) pg o_58.2 ct lo oc kd dp su nm o_48.1 (nI kb)
        else
          fb_E_takeTest_69 (nI e) pg o_58.2 ct lo oc kd dp su nm o_48.1 (nI kx))
      (fb_M_testLine_79 (nI e) pg (nI c) sx tk cu pa re cl si lt rd x3 (nI c) (nI w)) := by
  have hT := hq.1
  have l7 : (tx_ (mw_ w)).length = 7 ∧ (tx_ (mw_ w)).getD 0 0 = 32 ∧ (tx_ (mw_ w)).getD 1 0 = 35 ∧ mw_ w < 11 := by
    rcases hx with ⟨_, _, _, e4⟩ | ⟨_, _, _, e4⟩ <;> rw [e4] <;> decide
  have hw : w = 4 ∨ w = 5 := by omega
  obtain ⟨l7, l70, l71, l11⟩ := l7
  obtain ⟨w1, w2⟩ := ew_ hq (c := c) hw he hc
  obtain ⟨o1, o2, o3, o4⟩ := tn_ok (q := q) (e := e) 6 c hc hl
  obtain ⟨s1, s2⟩ := rk_text hq (i := mw_ w) (s := (tn_ q e 6 c).2) l11 o4 he
  have okn : pu_ok (tn_ q e 6 c).1 := ⟨o1, o2⟩
  rw [rk_name hq he hc hl, Option.bind_some]
  dsimp only
  unfold fb_M_testLine_79
  have cls : ∀ k sp, k < 4 → sp ≠ nI e → ∀ B m2 t2 rd2, B = some (0, m2, sx, t2, cu, pa, re, cl, si, lt, rd2) → tr_ n0 K0 P0 N0 e sx cu pa re cl si lt (fb_E_takeTest_69 (nI e) pg sp ct lo oc kd dp su nm (lN (pu_k (tn_ q e 6 c).1)) (nI k)) B := by
    intro k sp hk hsp B m2 t2 rd2 hB
    obtain ⟨r1, c1, l1, oo1, kd1, dp1, su1, nm1, a1, a2⟩ := ra_69 (pg := pg) h hk (nI e) sp (tn_ q e 6 c).1
    exact Or.inl ⟨_, _, _, _, _, _, _, _, _, _, _, _, a1, by rcases a2 with a | a; exact Or.inl a; exact Or.inr ⟨a, hsp⟩, hB⟩
  have neI : ∀ m, m ≤ 3007 → m ≠ e → nI m ≠ nI e := fun m hm hne z => hne ((nI_eq (by omega) (by omega)).mp z)
  by_cases hmk : c + 7 ≤ e ∧ mt_ q e (e - 7) (tx_ (mw_ w))
  · rw [(w1 hmk).1, Option.bind_some]
    dsimp only
    rw [if_neg (show ¬ (1 : Int32) = 0 by decide), (w1 hmk).2]
    unfold fb_M_testLine_106
    have q0 : q (e - 7) = 32 := by have := hmk.2.2 0 (by omega); rw [l70] at this; exact this
    have q1 : q (e - 7 + 1) = 35 := by have := hmk.2.2 1 (by omega); rw [l71] at this; exact this
    have em := tn_mark (u := e - 7) (by omega) q0 q1 6 c (by omega) hl
    obtain ⟨n1, n2⟩ := rm_name hq (u := e - 7) (s := c) (by omega) (by omega) (fun i z1 z2 => hl i z1 (by omega)) tk rd
    rw [← em] at n1 n2
    have o5 : (tn_ q e 6 c).2 ≤ e - 7 := by
      rw [em]
      exact (tn_ok (q := q) (e := e - 7) 6 c (by omega) (fun i z1 z2 => hl i z1 (by omega))).2.2.2
    by_cases hu : (tn_ q e 6 c).2 = e - 7
    · obtain ⟨rd', f1, f2⟩ := n1 hu
      rw [f1, Option.bind_some, s1 (by rw [hu]; exact hmk.2), Option.bind_some]
      dsimp only
      rw [if_neg (show ¬ (1 : Int32) = 0 by decide), if_neg (show ¬ (1 : Int32) = 0 by decide), if_neg (show ¬ (1 : Int32) = 0 by decide), hu, l7, show e - 7 + 7 = e by omega]
      rcases hx with ⟨e1, e2, e3, e4⟩ | ⟨e1, e2, e3, e4⟩
      · rw [e1, if_neg (show ¬ (1 : Int32) = 0 by decide), e3]
        exact ra_both h (by omega) okn f2 _ _ _
      · rw [e1, if_pos rfl, e3]
        exact ra_both h (by omega) okn f2 _ _ _
    · obtain ⟨x, t, r, f1⟩ := n2 hu
      rw [f1, Option.bind_some]
      dsimp only
      rw [if_pos (show (0 : Int32) = 0 from rfl)]
      by_cases z : mt_ q e (tn_ q e 6 c).2 (tx_ (mw_ w))
      · rw [s1 z, Option.bind_some]
        dsimp only
        rw [if_neg (show ¬ (1 : Int32) = 0 by decide), l7]
        exact cls kx _ (by omega) (neI _ (by omega) (by omega)) _ _ _ _ rfl
      · rw [s2 z, Option.bind_some]
        dsimp only
        rw [if_pos (show (0 : Int32) = 0 from rfl)]
        exact cls kb _ (by omega) (neI _ (by omega) (by omega)) _ _ _ _ rfl
  · rw [w2 hmk, Option.bind_some]
    dsimp only
    rw [if_pos (show (0 : Int32) = 0 from rfl)]
    unfold fb_M_testLine_106
    obtain ⟨n1, n2⟩ := rm_name hq (u := e) (s := c) he hc hl tk rd
    by_cases hu : (tn_ q e 6 c).2 = e
    · obtain ⟨rd', f1, f2⟩ := n1 hu
      have z : ¬ mt_ q e (tn_ q e 6 c).2 (tx_ (mw_ w)) := fun y => by have := y.1; omega
      rw [f1, Option.bind_some, s2 z, Option.bind_some]
      dsimp only
      rw [if_pos (show (0 : Int32) = 0 from rfl), if_neg (show ¬ (1 : Int32) = 0 by decide), if_pos (show (0 : Int32) = 0 from rfl), hu]
      rcases hx with ⟨e1, e2, e3, e4⟩ | ⟨e1, e2, e3, e4⟩
      · rw [e1, if_neg (show ¬ (1 : Int32) = 0 by decide), e2]
        exact ra_both h (by omega) okn f2 _ _ _
      · rw [e1, if_pos rfl, e2]
        exact ra_both h (by omega) okn f2 _ _ _
    · obtain ⟨x, t, r, f1⟩ := n2 hu
      rw [f1, Option.bind_some]
      dsimp only
      rw [if_pos (show (0 : Int32) = 0 from rfl)]
      by_cases z : mt_ q e (tn_ q e 6 c).2 (tx_ (mw_ w))
      · rw [s1 z, Option.bind_some]
        dsimp only
        rw [if_neg (show ¬ (1 : Int32) = 0 by decide), l7]
        refine cls kx _ (by omega) (neI _ (by omega) (fun y => hmk ⟨by omega, ?_⟩)) _ _ _ _ rfl
        rw [show e - 7 = (tn_ q e 6 c).2 by omega]
        exact z
      · rw [s2 z, Option.bind_some]
        dsimp only
        rw [if_pos (show (0 : Int32) = 0 from rfl)]
        exact cls kb _ (by omega) (neI _ (by omega) hu) _ _ _ _ rfl
theorem rt_test (h : bo_ n0 K0 P0 N0 ct lo oc kd dp su nm sx cu pa re cl si lt n K D P N L O) (hq : rq_ pg T q) {e c : Nat} (he : e ≤ T) (hc : c ≤ e) (hl : ∀ i, c ≤ i → i < e → 32 ≤ q i ∧ q i ≤ 126) {x3 : Int32} {kb kx w : Nat} (hx : (x3 = 1 ∧ kb = 0 ∧ kx = 2 ∧ w = 4) ∨ (x3 = 0 ∧ kb = 1 ∧ kx = 3 ∧ w = 5)) (tk : Int32) (rd : Nat → Int32) :
    tr_ n0 K0 P0 N0 e sx cu pa re cl si lt (fn_E_takeTest (nI e) pg (nI c) ct lo oc kd dp su nm (nI kb) (mw_ w) (nI kx)) (fb_M_testLine_44 (nI e) pg (nI c) sx tk cu pa re cl si lt rd x3 (nI (rs_ P n L))) := by
  obtain ⟨b1, b2, b3⟩ := bo_row h
  obtain ⟨d1, d2⟩ := rk_num hq (m := rs_ P n L + 1) (by omega) hc he
  unfold fn_E_takeTest fb_M_testLine_44 fn_R_innermost
  rw [Option.bind_some, b2, Option.bind_some, nI_1]
  by_cases z1 : mt_ q e c (nu_ (rs_ P n L + 1))
  · have c2 := z1.1
    rw [(d1 z1).1, (d1 z1).2, Option.bind_some, Option.bind_some]
    dsimp only
    rw [if_neg (show ¬ (1 : Int32) = 0 by decide), if_neg (show ¬ (1 : Int32) = 0 by decide)]
    obtain ⟨t1, t2⟩ := rk_text hq (i := 5) (by omega) c2 he
    obtain ⟨u1, u2⟩ := rm_text hq (w := 3) (by omega) c2 he
    have u1 : mt_ q e (c + (nu_ (rs_ P n L + 1)).length) (tx_ 5) → fn_M_eat (nI e) pg (nI (c + (nu_ (rs_ P n L + 1)).length)) 3 = some (1, nI (c + (nu_ (rs_ P n L + 1)).length + (tx_ 5).length)) := u1
    have u2 : ¬ mt_ q e (c + (nu_ (rs_ P n L + 1)).length) (tx_ 5) → fn_M_eat (nI e) pg (nI (c + (nu_ (rs_ P n L + 1)).length)) 3 = some (0, nI (c + (nu_ (rs_ P n L + 1)).length)) := u2
    by_cases z2 : mt_ q e (c + (nu_ (rs_ P n L + 1)).length) (tx_ 5)
    · have c3 := z2.1
      rw [t1 z2, u1 z2, Option.bind_some, Option.bind_some]
      dsimp only
      rw [if_neg (show ¬ (1 : Int32) = 0 by decide), if_neg (show ¬ (1 : Int32) = 0 by decide)]
      have r := rt_name h hq he c3 (fun i y1 y2 => hl i (by omega) y2) hx tk rd
      rcases hx with ⟨e1, e2, e3, e4⟩ | ⟨e1, e2, e3, e4⟩
      · rw [if_neg (show ¬ x3 = 0 by rw [e1]; decide)]
        rw [e4] at r ⊢
        exact r
      · rw [if_pos e1]
        rw [e4] at r ⊢
        exact r
    · rw [t2 z2, u2 z2, Option.bind_some, Option.bind_some]
      dsimp only
      rw [if_pos rfl, if_pos rfl]
      exact Or.inl ⟨_, _, _, _, _, _, _, _, _, _, _, _, rfl, Or.inl rfl, rfl⟩
  · obtain ⟨x, f1, f2⟩ := d2 z1
    rw [f1, f2, Option.bind_some, Option.bind_some]
    dsimp only
    rw [if_pos rfl, if_pos rfl]
    exact Or.inl ⟨_, _, _, _, _, _, _, _, _, _, _, _, rfl, Or.inl rfl, rfl⟩
end Rt
