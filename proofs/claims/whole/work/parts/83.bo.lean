/-! Pure rows: the report that is read, on both sides; nodes added to it, names compared. -/
theorem c1_ : ((1 : Int32).toNatClampNeg) = 1 := rfl
theorem ip_ (a : Nat) : (24 : Int32) + nI a = nI (24 + a) := nI_add 24 a
theorem i6_ (a i : Nat) : ((6 : Int32) * nI a) + nI i = nI (6 * a + i) := pm_ix6 a i
/-- the class's spare report and the reference's second half hold one report; its first half is as it was -/
def bo_ (n0 : Nat) (K0 P0 : Nat → Nat) (N0 : Nat → List Nat) (ct lo oc : Int32) (kd dp su : Nat → Int32) (nm : Nat → Int64) (sx : Int32) (cu pa re cl si lt : Nat → Int32) (n : Nat) (K D P : Nat → Nat) (N : Nat → List Nat) (L O : Nat) : Prop :=
  iv_ n K D P N L O ∧ rc_ n K D P N L O ct lo oc kd dp su nm ∧ rm_ 1 n K P N cu pa re cl si lt ∧ rm_ 0 n0 K0 P0 N0 cu pa re cl si lt ∧ sx = pu_r L ∧ (n0 ≤ 24 ∧ ∀ k, k < n0 → (N0 k).length ≤ 6)
theorem r0_add {n0 : Nat} {K0 P0 : Nat → Nat} {N0 : Nat → List Nat} {cu pa re cl si lt : Nat → Int32} (h : rm_ 0 n0 K0 P0 N0 cu pa re cl si lt) (h24 : n0 ≤ 24) (h6 : ∀ k, k < n0 → (N0 k).length ≤ 6) (n : Nat) (x0 x1 x2 x3 x4 x5 : Int32) (l : List Nat) :
    rm_ 0 n0 K0 P0 N0 (upd cu 1 x0) (upd pa (24 * 1 + n) x1) (upd re (24 * 1 + n) x2) (upd cl (24 * 1 + n) x3) (upd (upd si (24 * 1 + n) x4) (24 * 1 + n) x5) (pv_t lt (6 * (24 * 1 + n)) l) := by
  obtain ⟨h1, h2, h3, h4, h5, h7⟩ := h
  refine ⟨by rw [pk_un (by omega)]; exact h1, fun k hk => by rw [pk_un (by omega)]; exact h2 k hk, fun k hk => by rw [pk_un (by omega)]; exact h3 k hk, fun k hk => by rw [pk_un (by omega)]; exact h4 k hk, fun k hk => by rw [pk_un (by omega), pk_un (by omega)]; exact h5 k hk, fun k hk i hi => ?_⟩
  have := h6 k hk
  rw [pv_t_out (Or.inl (by omega))]
  exact h7 k hk i hi
theorem r0_close {n0 : Nat} {K0 P0 : Nat → Nat} {N0 : Nat → List Nat} {cu pa re cl si lt : Nat → Int32} (h : rm_ 0 n0 K0 P0 N0 cu pa re cl si lt) (h24 : n0 ≤ 24) (n : Nat) (x : Int32) :
    rm_ 0 n0 K0 P0 N0 cu pa re (upd cl (24 * 1 + n) x) si lt := by
  obtain ⟨h1, h2, h3, h4, h5, h7⟩ := h
  exact ⟨h1, h2, h3, fun k hk => by rw [pk_un (by omega)]; exact h4 k hk, h5, h7⟩
section Bo
variable {n0 : Nat} {K0 P0 : Nat → Nat} {N0 : Nat → List Nat} {ct lo oc : Int32} {kd dp su : Nat → Int32} {nm : Nat → Int64} {sx : Int32} {cu pa re cl si lt : Nat → Int32} {n : Nat} {K D P : Nat → Nat} {N : Nat → List Nat} {L O : Nat}
theorem ac_loop {n w : Nat} {l : List Nat} {rd : Nat → Int32} (hn : n < 24) (hl : pu_ok l) (hw : w < 100) (hr : ∀ i, i < l.length → rd i = nI (l.getD i 0)) :
    fl_M_accept_35 (nI l.length) rd 4000 (sx, cu, pa, re, cl, si, lt, nI w, nI n, 0) = some (1, if w = 4 then nI n else sx, cu, pa, re, cl, si, pv_t lt (6 * (24 * 1 + n)) l) := by
  have h6 := hl.1
  have e0 : fl_M_accept_35 (nI l.length) rd 4000 (sx, cu, pa, re, cl, si, lt, nI w, nI n, 0) = fl_M_accept_35 (nI l.length) rd 4000 (sx, cu, pa, re, cl, si, pv_ov lt (6 * (24 * 1 + n)) (fun j => nI (l.getD j 0)) 0, nI w, nI n, nI 0) := by rw [pv_ov0]; rfl
  rw [e0]
  unfold fl_M_accept_35
  refine pu_lp _ (fun i => (sx, cu, pa, re, cl, si, pv_ov lt (6 * (24 * 1 + n)) (fun j => nI (l.getD j 0)) i, nI w, nI n, nI i)) l.length _ (fun i hi k => ?_) (fun k => ?_) l.length 0 4000 (by omega) (by omega)
  · show fb_M_accept_35 (nI l.length) rd k sx cu pa re cl si (pv_ov lt (6 * (24 * 1 + n)) (fun j => nI (l.getD j 0)) i) (nI w) (nI n) (nI i) = k (sx, cu, pa, re, cl, si, pv_ov lt (6 * (24 * 1 + n)) (fun j => nI (l.getD j 0)) (i + 1), nI w, nI n, nI (i + 1))
    have hp := pn_getD_pos hl hi
    unfold fb_M_accept_35
    rw [if_neg (nI_ge hi (by omega)), jv_gp (pu_g (by omega) (by decide)), ip_, i6_, jv_gp (pu_g (by omega) (by decide)), nI_clamp (by omega), nI_clamp (by omega), hr i hi, pv_nar (by omega), nI_1, ← pv_ovs, Nat.mul_one]
  · show fb_M_accept_35 (nI l.length) rd k sx cu pa re cl si (pv_ov lt (6 * (24 * 1 + n)) (fun j => nI (l.getD j 0)) l.length) (nI w) (nI n) (nI l.length) = _
    unfold fb_M_accept_35
    rw [if_pos (nI_le (Nat.le_refl _) (by omega))]
    by_cases e : w = 4
    · rw [if_pos (show nI w = 4 by rw [e]; rfl), if_pos e]
      rfl
    · rw [if_neg (show ¬ nI w = 4 from fun z => e ((nI_eq (b := 4) (by omega) (by omega)).mp z)), if_neg e]
      rfl
theorem bo_full (h : bo_ n0 K0 P0 N0 ct lo oc kd dp su nm sx cu pa re cl si lt n K D P N L O) (hn : n = 24) (tk : Int32) (rd : Nat → Int32) (x : Int32) : fn_M_accept tk rd sx cu pa re cl si lt x = some (0, sx, cu, pa, re, cl, si, lt) := by
  unfold fn_M_accept
  rw [jv_gp (by decide), c1_, h.2.2.1.1, if_pos (by rw [hn]; rfl)]
theorem bo_add (h : bo_ n0 K0 P0 N0 ct lo oc kd dp su nm sx cu pa re cl si lt n K D P N L O) (hn : n < 24) {k w : Nat} (hk : (k < 4 ∧ w = k) ∨ (k = 6 ∧ w = 4 ∧ O < 3)) {l : List Nat} (hl : pu_ok l) {rd : Nat → Int32} (hr : ∀ i, i < l.length → rd i = nI (l.getD i 0)) :
    ∃ (c' l' o' : Int32) (kd' dp' su' : Nat → Int32) (nm' : Nat → Int64) (sx' : Int32) (cu' pa' re' cl' si' lt' : Nat → Int32), fn_R_addNode ct lo oc kd dp su nm (nI k) (lN (pu_k l)) = some (nI n, c', l', o', kd', dp', su', nm') ∧ fn_M_accept (nI l.length) rd sx cu pa re cl si lt (nI w) = some (1, sx', cu', pa', re', cl', si', lt') ∧
      bo_ n0 K0 P0 N0 c' l' o' kd' dp' su' nm' sx' cu' pa' re' cl' si' lt' (n + 1) (pq_up K n k) (pq_up D n O) (pq_up P n L) (pq_up N n l) (if k = 6 then n + 1 else L) (if k = 6 then O + 1 else O) := by
  obtain ⟨hv, hc, hm, h0, hx, h24, hN0⟩ := h
  obtain ⟨c', l', o', kd', dp', su', nm', e1, e2⟩ := px_add (k := k) (l := l) hc hn hv.1.2.2 (by omega)
  have e3 := pm_grow (g := 1) (x := nI w) (pa := pa) (si := si) (by omega) hn (iv_6 hv) (iv_13 hv) (iv_12 hv) hm.1 hm.2.2.1 hm.2.2.2.1
  have z := px_ref (g := 1) (k := k) (w := w) (L := L) (l := l) hm (by omega) hn (by omega) hl (fun q hq => (iv_N hv q hq).1)
  refine ⟨c', l', o', kd', dp', su', nm', if w = 4 then nI n else sx, _, _, _, _, _, _, e1, ?_, iv_add hv hn hl (by omega), e2, z, r0_add h0 h24 hN0 n _ _ _ _ _ _ l, ?_, h24, hN0⟩
  · unfold fn_M_accept
    rw [jv_gp (by decide), c1_, hm.1, if_neg (show ¬ nI n = 24 from fun q => by have := (nI_eq (b := 24) (by omega) (by omega)).mp q; omega), show (1 : Int32) = nI 1 from rfl, e3, Option.bind_some]
    dsimp only
    rw [ip_, jv_gp (pu_g (by omega) (by decide)), nI_clamp (by omega)]
    exact ac_loop hn hl (by omega) hr
  · rcases hk with ⟨a, b⟩ | ⟨a, b, c⟩
    · rw [if_neg (by omega), if_neg (by omega)]; exact hx
    · rw [if_pos b, if_pos a, pu_rs]
theorem is_loop {j : Nat} {l : List Nat} {m : List Nat} {rd : Nat → Int32} (hj : j < 24) (hl : pu_ok l) (hm : pu_ok m) (hlen : m.length = l.length) (hr : ∀ i, i < l.length → rd i = nI (l.getD i 0)) (hlt : ∀ i, i < m.length → lt (6 * (24 * 1 + j) + i) = nI (m.getD i 0)) :
    ∀ (d i F : Nat), i + d = l.length → d < F → (∀ x, x < i → m.getD x 0 = l.getD x 0) → fl_M_isName_24 (nI l.length) si lt rd F (nI j, 1, nI i) = some (pu_b (decide (m = l))) := by
  have h6 := hl.1
  intro d
  induction d with
  | zero =>
    intro i F hi hF hx
    cases F with
    | zero => omega
    | succ F =>
      have : m = l := by
        refine List.ext_getElem hlen (fun x hx1 hx2 => ?_)
        have := hx x (by omega)
        rw [List.getD_eq_getElem?_getD, List.getD_eq_getElem?_getD, List.getElem?_eq_getElem hx1, List.getElem?_eq_getElem hx2] at this
        exact this
      rw [fs_M_isName_24]
      unfold fb_M_isName_24
      rw [if_pos (nI_le (by omega) (by omega)), pz_1, decide_eq_true this]
      rfl
  | succ d ih =>
    intro i F hi hF hx
    cases F with
    | zero => omega
    | succ F =>
      have p1 := pn_getD_pos hl (show i < l.length by omega)
      have p2 := pn_getD_pos hm (show i < m.length by omega)
      rw [fs_M_isName_24]
      unfold fb_M_isName_24
      have g := hlt i (by omega)
      rw [Nat.mul_one] at g
      rw [if_neg (nI_ge (by omega) (by omega)), if_neg (by decide), ip_, i6_, jv_gp (pu_g (by omega) (by decide)), jv_gp (pu_g (by omega) (by decide)), nI_clamp (by omega), nI_clamp (by omega), hr i (by omega), g, nI_1]
      by_cases e : m.getD i 0 = l.getD i 0
      · rw [if_pos (by rw [e])]
        exact ih (i + 1) F (by omega) (by omega) (fun x hxx => by
          by_cases ex : x = i
          · rw [ex]; exact e
          · exact hx x (by omega))
      · rw [if_neg (fun z => e ((nI_eq (by omega) (by omega)).mp z))]
        have : ¬ m = l := fun z => e (by rw [z])
        cases F with
        | zero => omega
        | succ F =>
          rw [fs_M_isName_24]
          unfold fb_M_isName_24
          rw [if_pos (show (0 : Int32) = 0 from rfl), pz_0, decide_eq_false this]
          by_cases z : nI l.length ≤ nI (i + 1)
          · rw [if_pos z]; rfl
          · rw [if_neg z]; rfl
theorem is_name {j : Nat} {l : List Nat} {m : List Nat} {rd : Nat → Int32} (hj : j < 24) (hl : pu_ok l) (hm : pu_ok m) (hr : ∀ i, i < l.length → rd i = nI (l.getD i 0)) (hs : si (24 * 1 + j) = nI m.length) (hlt : ∀ i, i < m.length → lt (6 * (24 * 1 + j) + i) = nI (m.getD i 0)) :
    fn_M_isName (nI l.length) si lt rd (nI j) = some (pu_b (decide (m = l))) := by
  have h6 := hl.1
  have h6m := hm.1
  unfold fn_M_isName
  rw [ip_, jv_gp (pu_g (by omega) (by decide)), nI_clamp (by omega)]
  rw [Nat.mul_one] at hs
  rw [hs]
  by_cases e : m.length = l.length
  · rw [if_pos (by rw [e])]
    exact is_loop hj hl hm e hr hlt l.length 0 4000 (by omega) (by omega) (fun x hx => absurd hx (Nat.not_lt_zero _))
  · rw [if_neg (fun z => e ((nI_eq (by omega) (by omega)).mp z))]
    have : ¬ m = l := fun z => e (by rw [z])
    rw [decide_eq_false this, show fl_M_isName_24 (nI l.length) si lt rd 4000 (nI j, 0, 0) = fb_M_isName_24 (nI l.length) si lt rd (fl_M_isName_24 (nI l.length) si lt rd 3999) (nI j) 0 0 from fs_M_isName_24 _ _ _ _ 3999 _ _ _]
    unfold fb_M_isName_24
    rw [if_pos (show (0 : Int32) = 0 from rfl), pz_0]
    by_cases z : nI l.length ≤ 0
    · rw [if_pos z]; rfl
    · rw [if_neg z]; rfl
theorem bo_depth (h : bo_ n0 K0 P0 N0 ct lo oc kd dp su nm sx cu pa re cl si lt n K D P N L O) {i : Nat} (hL : L = i + 1) : fn_M_depthOf pa 1 sx = some (nI (D i)) ∧ O = D i + 1 ∧ i < n := by
  obtain ⟨hv, hc, hm, h0, hx, h24, hN0⟩ := h
  have hin := (iv_12 hv i hL).1
  refine ⟨?_, (hv.2.2.2.2.1.2 i hL).2, hin⟩
  rw [hx, hL, pu_rs, show (1 : Int32) = nI 1 from rfl]
  exact pm_depth (g := 1) (by omega) (iv_n hv) (iv_5 hv) (iv_D hv) hm.2.1 hin
theorem bo_row (h : bo_ n0 K0 P0 N0 ct lo oc kd dp su nm sx cu pa re cl si lt n K D P N L O) : fn_M_rowSize cu pa 1 sx = some (nI (rs_ P n L)) ∧ fn_R_rowSize ct su lo = some (nI (rs_ P n L)) ∧ rs_ P n L ≤ 24 := by
  obtain ⟨hv, hc, hm, h0, hx, h24, hN0⟩ := h
  have hn := iv_n hv
  have hL := hv.1.2.1
  refine ⟨?_, ?_, ?_⟩
  · rw [hx, show (1 : Int32) = nI 1 from rfl]
    exact pm_rowSize (g := 1) (by omega) hn (by omega) (iv_5 hv) hm.1 hm.2.1
  · rw [hc.1, hc.2.1]
    exact lc_rowSize hv hc.2.2.2.2.2.1 hL
  · have := pu_c_le (fun k => decide (P k = L)) n
    unfold rs_
    omega
end Bo
