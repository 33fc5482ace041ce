/-! Pure rows: the lines of a page, written by both sides. -/
def rs_ (P : Nat → Nat) (n r : Nat) : Nat := pu_c (fun k => decide (P k = r)) n
def pl_ (P : Nat → Nat) (k : Nat) : Nat := pu_c (fun j => decide (P j = P k)) (k + 1)
def vd_ (k : Nat) : Nat := if k = 1 ∨ k = 3 ∨ k = 5 then 4 else 3
def dr_ (k : Nat) : Nat := if k = 2 then 6 else if k = 3 then 7 else 10
/-- a plan's line, a verdict's line up to its name, a verdict's line, a subtest's line -/
def tp_ (D P : Nat → Nat) (n r : Nat) : List Nat := in_d (pm_rd D r) ++ tx_ 8 ++ nu_ (rs_ P n r) ++ [10]
def t0_ (D P : Nat → Nat) (N : Nat → List Nat) (v k : Nat) : List Nat := in_d (D k) ++ tx_ v ++ nu_ (pl_ P k) ++ tx_ 5 ++ es_ (N k)
def tv_ (K D P : Nat → Nat) (N : Nat → List Nat) (k : Nat) : List Nat := t0_ D P N (vd_ (K k)) k ++ tx_ (dr_ (K k)) ++ [10]
def ts_ (D : Nat → Nat) (N : Nat → List Nat) (k : Nat) : List Nat := in_d (D k) ++ tx_ 2 ++ es_ (N k) ++ [10]
theorem vd_is : ∀ k, k < 7 → fn_W_verdictOf (nI k) = some (vd_ k) := by decide +kernel
theorem dr_is : ∀ k, k < 7 → fn_W_directiveOf (nI k) = some (dr_ k) := by decide +kernel
theorem vd_lt (k : Nat) : vd_ k < 11 := by
  unfold vd_
  by_cases h : k = 1 ∨ k = 3 ∨ k = 5
  · rw [if_pos h]; decide
  · rw [if_neg h]; decide
theorem dr_lt (k : Nat) : dr_ k < 11 := by
  unfold dr_
  by_cases h : k = 2
  · rw [if_pos h]; decide
  · rw [if_neg h]
    by_cases h : k = 3
    · rw [if_pos h]; decide
    · rw [if_neg h]; decide
section Ln
variable {n : Nat} {K D P : Nat → Nat} {N : Nat → List Nat} {L O : Nat} {ct lo oc : Int32} {kd dp su : Nat → Int32} {nm : Nat → Int64}
theorem lc_rowDepth (hn : n ≤ 24) (hd : ∀ k, k < n → dp k = nI (D k)) {r : Nat} (hr : r ≤ n) : fn_R_rowDepth (nI n) dp (pu_r r) = some (nI (pm_rd D r)) := by
  cases r with
  | zero => exact pc_rowDepth0
  | succ i =>
    rw [pu_rs]
    exact pc_rowDepthS hn (by omega) hd
theorem lc_rowSize (hv : iv_ n K D P N L O) (hs : ∀ k, k < n → su k = pu_r (P k)) {r : Nat} (hr : r ≤ n) : fn_R_rowSize (nI n) su (pu_r r) = some (nI (rs_ P n r)) := by
  have hn := iv_n hv
  unfold fn_R_rowSize
  rw [pc_count hn (Nat.le_refl n) (by omega) (fun k hk => by have := iv_5 hv k hk; omega) hs, Option.bind_some]
  rfl
theorem lc_place (hv : iv_ n K D P N L O) (hs : ∀ k, k < n → su k = pu_r (P k)) {k : Nat} (hk : k < n) : fn_R_placeOf (nI n) su (nI k) = some (nI (pl_ P k)) := by
  have hn := iv_n hv
  have := iv_5 hv k hk
  unfold fn_R_placeOf
  rw [pc_hasIn hn hk, Option.bind_some, if_neg (by decide), jv_gp (pu_g (by omega) (by decide)), nI_clamp (by omega), hs k hk, nI_1, pc_count hn (show k + 1 ≤ n by omega) (by omega) (fun k hk => by have := iv_5 hv k hk; omega) hs, Option.bind_some]
  rfl
theorem rs_lt (n r : Nat) (hn : n ≤ 24) : rs_ P n r < 100 := by
  have := pu_c_le (fun k => decide (P k = r)) n
  show pu_c _ n < 100
  omega
theorem pl_lt (k : Nat) (hn : k < 24) : pl_ P k < 100 := by
  have := pu_c_le (fun j => decide (P j = P k)) (k + 1)
  show pu_c _ (k + 1) < 100
  omega
theorem lc_plan (hv : iv_ n K D P N L O) (hc : rc_ n K D P N L O ct lo oc kd dp su nm) {r : Nat} (hr : r ≤ n) : ∀ (z : Nat) (f : Nat → Int32), z + (tp_ D P n r).length ≤ 3000 → fn_W_writePlan ct dp su (nI z) f (pu_r r) = some (nI (z + (tp_ D P n r).length), pv_t f z (tp_ D P n r)) := by
  intro z f hz
  have hn := iv_n hv
  have hrd : pm_rd D r ≤ 4 := by
    cases r with
    | zero => exact Nat.zero_le _
    | succ i => have := iv_9 hv i (by omega); show D i + 1 ≤ 4; omega
  unfold tp_ at hz ⊢
  have h1 : z + ((in_d (pm_rd D r)).length + (tx_ 8).length + (nu_ (rs_ P n r)).length + 1) ≤ 3000 := by
    simp only [List.length_append] at hz
    exact hz
  unfold fn_W_writePlan
  have e2 : fn_P_addText (nI (z + (in_d (pm_rd D r)).length)) (pv_t f z (in_d (pm_rd D r))) 8 = _ := ww_ (F := fun z f => fn_P_addText z f 8) (wr_text 8 (by omega)) (a := in_d (pm_rd D r)) (z := z) (f := f) (by simp only [List.length_append]; omega)
  have e3 : fn_P_addNumber (nI (z + (in_d (pm_rd D r) ++ tx_ 8).length)) (pv_t f z (in_d (pm_rd D r) ++ tx_ 8)) (nI (rs_ P n r)) = _ := ww_ (F := fun z f => fn_P_addNumber z f (nI (rs_ P n r))) (wr_num _ (rs_lt n r hn)) (a := in_d (pm_rd D r) ++ tx_ 8) (z := z) (f := f) (by simp only [List.length_append]; omega)
  rw [hc.1, lc_rowDepth hn hc.2.2.2.2.1 hr, Option.bind_some, wr_indent _ (by omega) z f (by omega), Option.bind_some]
  dsimp only
  rw [e2, Option.bind_some, lc_rowSize hv hc.2.2.2.2.2.1 hr, Option.bind_some]
  dsimp only
  rw [e3, Option.bind_some]
  dsimp only
  rw [show (10 : Int32) = nI 10 from rfl, wra (by simp only [List.length_append]; omega) (by omega), Option.bind_some]
theorem lc_sub (hv : iv_ n K D P N L O) (hc : rc_ n K D P N L O ct lo oc kd dp su nm) {k : Nat} (hk : k < n) : ∀ (z : Nat) (f : Nat → Int32), z + (ts_ D N k).length ≤ 3000 → fn_W_writeSubtest ct dp nm (nI z) f (nI k) = some (nI (z + (ts_ D N k).length), pv_t f z (ts_ D N k)) := by
  intro z f hz
  have hn := iv_n hv
  have hd := iv_9 hv k hk
  unfold ts_ at hz ⊢
  have h1 : z + ((in_d (D k)).length + (tx_ 2).length + (es_ (N k)).length + 1) ≤ 3000 := by
    simp only [List.length_append] at hz
    exact hz
  unfold fn_W_writeSubtest
  have e2 : fn_P_addText (nI (z + (in_d (D k)).length)) (pv_t f z (in_d (D k))) 2 = _ := ww_ (F := fun z f => fn_P_addText z f 2) (wr_text 2 (by omega)) (a := in_d (D k)) (z := z) (f := f) (by simp only [List.length_append]; omega)
  have e3 : fn_P_addWritten (nI (z + (in_d (D k) ++ tx_ 2).length)) (pv_t f z (in_d (D k) ++ tx_ 2)) (lN (pu_k (N k))) = _ := ww_ (F := fun z f => fn_P_addWritten z f (lN (pu_k (N k)))) (wr_name (iv_N hv k hk)) (a := in_d (D k) ++ tx_ 2) (z := z) (f := f) (by simp only [List.length_append]; omega)
  rw [hc.1, pc_depthIn hn hk hc.2.2.2.2.1, Option.bind_some, wr_indent _ (by omega) z f (by omega), Option.bind_some]
  dsimp only
  rw [e2, Option.bind_some, pc_nameIn hn hk hc.2.2.2.2.2.2, Option.bind_some]
  dsimp only
  rw [e3, Option.bind_some]
  dsimp only
  rw [show (10 : Int32) = nI 10 from rfl, wra (by simp only [List.length_append]; omega) (by omega), Option.bind_some]
theorem lc_verdict (hv : iv_ n K D P N L O) (hc : rc_ n K D P N L O ct lo oc kd dp su nm) {k : Nat} (hk : k < n) : ∀ (z : Nat) (f : Nat → Int32), z + (tv_ K D P N k).length ≤ 3000 → fn_W_writeVerdict ct kd dp su nm (nI z) f (nI k) = some (nI (z + (tv_ K D P N k).length), pv_t f z (tv_ K D P N k)) := by
  intro z f hz
  have hn := iv_n hv
  have hd := iv_9 hv k hk
  have h6 := iv_6 hv k hk
  have hvl := vd_lt (K k)
  have hdl := dr_lt (K k)
  unfold tv_ t0_ at hz ⊢
  have h1 : z + ((in_d (D k)).length + (tx_ (vd_ (K k))).length + (nu_ (pl_ P k)).length + (tx_ 5).length + (es_ (N k)).length + (tx_ (dr_ (K k))).length + 1) ≤ 3000 := by
    simp only [List.length_append] at hz
    exact hz
  unfold fn_W_writeVerdict
  have e2 : fn_P_addText (nI (z + (in_d (D k)).length)) (pv_t f z (in_d (D k))) (vd_ (K k)) = _ := ww_ (F := fun z f => fn_P_addText z f (vd_ (K k))) (wr_text _ hvl) (a := in_d (D k)) (z := z) (f := f) (by simp only [List.length_append]; omega)
  have e3 : fn_P_addNumber (nI (z + (in_d (D k) ++ tx_ (vd_ (K k))).length)) (pv_t f z (in_d (D k) ++ tx_ (vd_ (K k)))) (nI (pl_ P k)) = _ := ww_ (F := fun z f => fn_P_addNumber z f (nI (pl_ P k))) (wr_num _ (pl_lt k (by omega))) (a := in_d (D k) ++ tx_ (vd_ (K k))) (z := z) (f := f) (by simp only [List.length_append]; omega)
  have e4 : fn_P_addText (nI (z + (in_d (D k) ++ tx_ (vd_ (K k)) ++ nu_ (pl_ P k)).length)) (pv_t f z (in_d (D k) ++ tx_ (vd_ (K k)) ++ nu_ (pl_ P k))) 5 = _ := ww_ (F := fun z f => fn_P_addText z f 5) (wr_text 5 (by omega)) (a := in_d (D k) ++ tx_ (vd_ (K k)) ++ nu_ (pl_ P k)) (z := z) (f := f) (by simp only [List.length_append]; omega)
  have e5 : fn_P_addWritten (nI (z + (in_d (D k) ++ tx_ (vd_ (K k)) ++ nu_ (pl_ P k) ++ tx_ 5).length)) (pv_t f z (in_d (D k) ++ tx_ (vd_ (K k)) ++ nu_ (pl_ P k) ++ tx_ 5)) (lN (pu_k (N k))) = _ := ww_ (F := fun z f => fn_P_addWritten z f (lN (pu_k (N k)))) (wr_name (iv_N hv k hk)) (a := in_d (D k) ++ tx_ (vd_ (K k)) ++ nu_ (pl_ P k) ++ tx_ 5) (z := z) (f := f) (by simp only [List.length_append]; omega)
  have e6 : fn_P_addText (nI (z + (in_d (D k) ++ tx_ (vd_ (K k)) ++ nu_ (pl_ P k) ++ tx_ 5 ++ es_ (N k)).length)) (pv_t f z (in_d (D k) ++ tx_ (vd_ (K k)) ++ nu_ (pl_ P k) ++ tx_ 5 ++ es_ (N k))) (dr_ (K k)) = _ := ww_ (F := fun z f => fn_P_addText z f (dr_ (K k))) (wr_text _ hdl) (a := in_d (D k) ++ tx_ (vd_ (K k)) ++ nu_ (pl_ P k) ++ tx_ 5 ++ es_ (N k)) (z := z) (f := f) (by simp only [List.length_append]; omega)
  rw [hc.1, pc_kindIn hn hk hc.2.2.2.1, Option.bind_some, pc_depthIn hn hk hc.2.2.2.2.1, Option.bind_some, wr_indent _ (by omega) z f (by omega), Option.bind_some, vd_is _ (by omega), Option.bind_some]
  dsimp only
  rw [e2, Option.bind_some, lc_place hv hc.2.2.2.2.2.1 hk, Option.bind_some]
  dsimp only
  rw [e3, Option.bind_some]
  dsimp only
  rw [e4, Option.bind_some, pc_nameIn hn hk hc.2.2.2.2.2.2, Option.bind_some]
  dsimp only
  rw [e5, Option.bind_some, dr_is _ (by omega), Option.bind_some]
  dsimp only
  rw [e6, Option.bind_some]
  dsimp only
  rw [show (10 : Int32) = nI 10 from rfl, wra (by simp only [List.length_append]; omega) (by omega), Option.bind_some]
end Ln
