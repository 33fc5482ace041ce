/-! Pure rows: texts laid over a function; nodes added and closed on both sides. -/
theorem pv_nar {w : Nat} (h : w < 65536) : vp_nar .char (nI w) = nI w := by
  have e := (pk_charN h).1
  unfold vp_nar
  rw [e]
theorem pv_z0 : vp_nar .boolean 0 = 0 := by decide
theorem pv_z1 : vp_nar .boolean 1 = 1 := by decide
/-- g laid over f from a on, m places -/
def pv_ov (f : Nat → Int32) (a : Nat) (g : Nat → Int32) (m : Nat) : Nat → Int32 := fun j => if a ≤ j ∧ j < a + m then g (j - a) else f j
theorem pv_ov0 (f : Nat → Int32) (a : Nat) (g : Nat → Int32) : pv_ov f a g 0 = f := by
  funext j
  unfold pv_ov
  rw [if_neg (by omega)]
theorem pv_ovs (f : Nat → Int32) (a : Nat) (g : Nat → Int32) (m : Nat) : upd (pv_ov f a g m) (a + m) (g m) = pv_ov f a g (m + 1) := by
  funext j
  unfold pv_ov upd
  by_cases e : j = a + m
  · rw [if_pos e, if_pos (by omega), e, Nat.add_sub_cancel_left]
  · rw [if_neg e]
    show (if a ≤ j ∧ j < a + m then g (j - a) else f j) = _
    by_cases e2 : a ≤ j ∧ j < a + m
    · rw [if_pos e2, if_pos (by omega)]
    · rw [if_neg e2, if_neg (by omega)]
/-- a text laid over f from a on -/
def pv_t (f : Nat → Int32) (a : Nat) (l : List Nat) : Nat → Int32 := pv_ov f a (fun j => nI (l.getD j 0)) l.length
theorem pv_t0 (f : Nat → Int32) (a : Nat) : pv_t f a [] = f := pv_ov0 _ _ _
theorem pv_t_in {f : Nat → Int32} {a j : Nat} {l : List Nat} (h : j < l.length) : pv_t f a l (a + j) = nI (l.getD j 0) := by
  unfold pv_t pv_ov
  rw [if_pos (by omega), Nat.add_sub_cancel_left]
theorem pv_t_out {f : Nat → Int32} {a j : Nat} {l : List Nat} (h : j < a ∨ a + l.length ≤ j) : pv_t f a l j = f j := by
  unfold pv_t pv_ov
  rw [if_neg (by omega)]
theorem pv_app (f : Nat → Int32) (a : Nat) (l m : List Nat) : pv_t (pv_t f a l) (a + l.length) m = pv_t f a (l ++ m) := by
  funext j
  by_cases h1 : j < a
  · rw [pv_t_out (Or.inl (by omega)), pv_t_out (Or.inl h1), pv_t_out (Or.inl h1)]
  · obtain ⟨i, rfl⟩ : ∃ i, j = a + i := ⟨j - a, by omega⟩
    by_cases h2 : i < l.length
    · rw [pv_t_out (Or.inl (by omega)), pv_t_in h2, pv_t_in (by rw [List.length_append]; omega)]
      congr 1
      rw [List.getD_eq_getElem?_getD, List.getD_eq_getElem?_getD, List.getElem?_append_left h2]
    · obtain ⟨q, rfl⟩ : ∃ q, i = l.length + q := ⟨i - l.length, by omega⟩
      by_cases h3 : q < m.length
      · rw [← Nat.add_assoc, pv_t_in h3, Nat.add_assoc, pv_t_in (by rw [List.length_append]; omega)]
        congr 1
        rw [List.getD_eq_getElem?_getD, List.getD_eq_getElem?_getD, List.getElem?_append_right (by omega), Nat.add_sub_cancel_left]
      · rw [pv_t_out (Or.inr (by omega)), pv_t_out (Or.inr (by omega)), pv_t_out (Or.inr (by rw [List.length_append]; omega))]
theorem pv_one (f : Nat → Int32) (a c : Nat) : upd f a (nI c) = pv_t f a [c] := by
  have e := pv_ovs f a (fun j => nI ([c].getD j 0)) 0
  rw [pv_ov0] at e
  exact e
/-- the reference adds a node: its own part -/
theorem pm_grow {g n L : Nat} {K : Nat → Nat} {cu pa re cl si : Nat → Int32} {x : Int32} (hg : g ≤ 1) (hn : n < 24) (h6 : ∀ k, k < n → K k ≤ 6) (h13 : ∀ a, a < n → K a = 6 → a + 1 ≤ L) (h12 : ∀ i, L = i + 1 → i < n ∧ K i = 6) (hc : cu g = nI n) (hr : ∀ k, k < n → re (24 * g + k) = nI (if K k < 4 then K k else 4)) (hl : ∀ k, k < n → cl (24 * g + k) = pu_b (decide (K k = 4 ∨ K k = 5))) :
    fn_M_grow cu pa re cl si (nI g) x = some (nI n, upd cu g (nI (n + 1)), upd pa (24 * g + n) (pu_r L), upd re (24 * g + n) x, upd cl (24 * g + n) 0, upd si (24 * g + n) 0) := by
  have eL : pu_l (fun k => decide (K k = 6)) n = L := pu_l_is (fun a ha q => h13 a ha (by simpa using q)) (fun i hi => ⟨(h12 i hi).1, by simpa using (h12 i hi).2⟩)
  have g1 : jv_ig (nI g) 2 = true := pu_g (by omega) (by decide)
  have g2 : jv_ig (nI (24 * g + n)) 48 = true := pu_g (by omega) (by decide)
  unfold fn_M_grow
  rw [jv_gp g1, pm_inner hg (by omega) h6 hc hr hl, Option.bind_some, nI_clamp (by omega), hc, pm_ix, jv_gp g2, jv_gp g2, jv_gp g2, jv_gp g2, jv_gp g1, jv_gp g1, nI_clamp (by omega), nI_1, eL, pv_z0]
theorem pm_addLoop {n : Nat} {B : List Nat} {na cu pa re cl si lt : Nat → Int32} (hn : n < 24) (hB : pu_ok B) (hna : ∀ i, i < B.length → na i = nI (B.getD i 0)) :
    fl_M_addNamed_9 na 4000 (nI B.length, cu, pa, re, cl, si, lt, nI n, 0) = some (nI n, 0, cu, pa, re, cl, upd si n (nI B.length), pv_t lt (6 * n) B) := by
  have h6 := hB.1
  have e0 : fl_M_addNamed_9 na 4000 (nI B.length, cu, pa, re, cl, si, lt, nI n, 0) = fl_M_addNamed_9 na 4000 (nI B.length, cu, pa, re, cl, si, pv_ov lt (6 * n) (fun j => nI (B.getD j 0)) 0, nI n, nI 0) := by rw [pv_ov0]; rfl
  rw [e0]
  unfold fl_M_addNamed_9
  refine pu_lp _ (fun i => (nI B.length, cu, pa, re, cl, si, pv_ov lt (6 * n) (fun j => nI (B.getD j 0)) i, nI n, nI i)) B.length _ (fun i hi k => ?_) (fun k => ?_) B.length 0 4000 (by omega) (by omega)
  · show fb_M_addNamed_9 na k (nI B.length) cu pa re cl si (pv_ov lt (6 * n) (fun j => nI (B.getD j 0)) i) (nI n) (nI i) = k (nI B.length, cu, pa, re, cl, si, pv_ov lt (6 * n) (fun j => nI (B.getD j 0)) (i + 1), nI n, nI (i + 1))
    have hp := pn_getD_pos hB hi
    unfold fb_M_addNamed_9
    rw [if_neg (nI_ge hi (by omega)), jv_gp (pu_g (by omega) (by decide)), pm_ix6, jv_gp (pu_g (by omega) (by decide)), nI_clamp (by omega), nI_clamp (by omega), hna i hi, pv_nar (by omega), nI_1, ← pv_ovs]
  · show fb_M_addNamed_9 na k (nI B.length) cu pa re cl si (pv_ov lt (6 * n) (fun j => nI (B.getD j 0)) B.length) (nI n) (nI B.length) = _
    unfold fb_M_addNamed_9
    rw [if_pos (nI_le (Nat.le_refl _) (by omega)), jv_gp (pu_g (by omega) (by decide)), nI_clamp (by omega)]
    rfl
theorem pm_addNamed {n L : Nat} {K : Nat → Nat} {B : List Nat} {bg x : Int32} {na cu pa re cl si lt : Nat → Int32} (hn : n < 24) (h6 : ∀ k, k < n → K k ≤ 6) (h13 : ∀ a, a < n → K a = 6 → a + 1 ≤ L) (h12 : ∀ i, L = i + 1 → i < n ∧ K i = 6) (hc : cu 0 = nI n) (hr : ∀ k, k < n → re (24 * 0 + k) = nI (if K k < 4 then K k else 4)) (hl : ∀ k, k < n → cl (24 * 0 + k) = pu_b (decide (K k = 4 ∨ K k = 5))) (hB : pu_ok B) (hbg : bg = nI B.length) (hna : ∀ i, i < B.length → na i = nI (B.getD i 0)) :
    fn_M_addNamed na bg cu pa re cl si lt x = some (nI n, 0, upd cu 0 (nI (n + 1)), upd pa n (pu_r L), upd re n x, upd cl n 0, upd (upd si n 0) n (nI B.length), pv_t lt (6 * n) B) := by
  have e := pm_grow (g := 0) (pa := pa) (si := si) (x := x) (by omega) hn h6 h13 h12 hc hr hl
  unfold fn_M_addNamed
  rw [show (0 : Int32) = nI 0 from rfl, e, Option.bind_some, hbg, Nat.mul_zero, Nat.zero_add]
  exact pm_addLoop hn hB hna
