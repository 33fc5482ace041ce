/-! Pure rows: what the reference's functions answer over a report in mathematical words. -/
noncomputable def pq_d (p : Prop) : Bool := @decide p (Classical.propDecidable p)
theorem pq_d_iff (p : Prop) : pq_d p = true ↔ p := @decide_eq_true_iff p (Classical.propDecidable p)
def pu_b (b : Bool) : Int32 := if b = true then 1 else 0
theorem pu_b0 {b : Bool} : pu_b b = 0 ↔ b = false := by cases b <;> decide
theorem pu_bz (b : Bool) : jv_zb (pu_b b) = true := by cases b <;> rfl
def pu_l (p : Nat → Bool) : Nat → Nat
  | 0 => 0
  | n + 1 => if p n = true then n + 1 else pu_l p n
theorem pu_l_is {p : Nat → Bool} {n L : Nat} (h1 : ∀ a, a < n → p a = true → a + 1 ≤ L) (h2 : ∀ i, L = i + 1 → i < n ∧ p i = true) : pu_l p n = L := by
  induction n with
  | zero =>
    show 0 = L
    cases L with
    | zero => rfl
    | succ i => have := (h2 i rfl).1; omega
  | succ n ih =>
    show (if p n = true then n + 1 else pu_l p n) = L
    by_cases e : p n = true
    · rw [if_pos e]
      have a1 := h1 n (by omega) e
      cases L with
      | zero => omega
      | succ i => have := (h2 i rfl).1; omega
    · rw [if_neg e]
      refine ih (fun a ha => h1 a (by omega)) (fun i hi => ?_)
      obtain ⟨b1, b2⟩ := h2 i hi
      refine ⟨?_, b2⟩
      by_cases ei : i = n
      · rw [ei] at b2; exact absurd b2 e
      · omega
/-- half g of the reference's arrays holds n nodes with kinds K, rows P, names N -/
def rm_ (g n : Nat) (K P : Nat → Nat) (N : Nat → List Nat) (cu pa re cl si lt : Nat → Int32) : Prop :=
  cu g = nI n ∧ (∀ k, k < n → pa (24 * g + k) = pu_r (P k)) ∧ (∀ k, k < n → re (24 * g + k) = nI (if K k < 4 then K k else 4)) ∧ (∀ k, k < n → cl (24 * g + k) = pu_b (decide (K k = 4 ∨ K k = 5))) ∧
  (∀ k, k < n → si (24 * g + k) = nI (N k).length) ∧ ∀ k, k < n → ∀ i, i < (N k).length → lt (6 * (24 * g + k) + i) = nI ((N k).getD i 0)
theorem pm_ix (g k : Nat) : ((24 : Int32) * nI g) + nI k = nI (24 * g + k) := by rw [show (24 : Int32) = nI 24 from rfl, pk_mul, nI_add]
theorem pm_ix6 (k i : Nat) : ((6 : Int32) * nI k) + nI i = nI (6 * k + i) := by rw [show (6 : Int32) = nI 6 from rfl, pk_mul, nI_add]
theorem pm_inner {g n : Nat} {K : Nat → Nat} {cu re cl : Nat → Int32} (hg : g ≤ 1) (hn : n ≤ 24) (h6 : ∀ k, k < n → K k ≤ 6) (hc : cu g = nI n) (hr : ∀ k, k < n → re (24 * g + k) = nI (if K k < 4 then K k else 4)) (hl : ∀ k, k < n → cl (24 * g + k) = pu_b (decide (K k = 4 ∨ K k = 5))) :
    fn_M_innermost cu re cl (nI g) = some (pu_r (pu_l (fun k => decide (K k = 6)) n)) := by
  unfold fn_M_innermost fl_M_innermost_4
  have e0 : (nI g, (-1 : Int32), (0 : Int32)) = (nI g, pu_r (pu_l (fun k => decide (K k = 6)) 0), nI 0) := rfl
  rw [e0]
  refine pu_lp _ (fun i => (nI g, pu_r (pu_l (fun k => decide (K k = 6)) i), nI i)) n _ (fun i hi k => ?_) (fun k => ?_) n 0 4000 (by omega) (by omega)
  · show fb_M_innermost_4 cu re cl k (nI g) (pu_r (pu_l (fun k => decide (K k = 6)) i)) (nI i) = k (nI g, pu_r (if decide (K i = 6) = true then i + 1 else pu_l (fun k => decide (K k = 6)) i), nI (i + 1))
    have hK := h6 i hi
    unfold fb_M_innermost_4
    rw [jv_gp (pu_g (by omega) (by decide)), nI_clamp (by omega), hc, if_neg (nI_ge hi (by omega)), pm_ix, jv_gp (pu_g (by omega) (by decide)), nI_clamp (by omega), hr i hi, jv_gp (pu_g (by omega) (by decide)), hl i hi, nI_1]
    by_cases e4 : K i < 4
    · rw [if_pos e4, if_neg (fun q => by have := (nI_eq (a := K i) (b := 4) (by omega) (by omega)).mp q; omega), if_neg (by simp; omega)]
    · rw [if_neg e4, if_pos (show nI 4 = 4 from rfl)]
      by_cases e6 : K i = 6
      · rw [if_pos (pu_b0.mpr (by simp; omega)), if_pos (by simp [e6]), pu_rs]
      · rw [if_neg (fun q => by have := pu_b0.mp q; simp at this; omega), if_neg (by simp [e6])]
  · show fb_M_innermost_4 cu re cl k (nI g) (pu_r (pu_l (fun k => decide (K k = 6)) n)) (nI n) = _
    unfold fb_M_innermost_4
    rw [jv_gp (pu_g (by omega) (by decide)), nI_clamp (by omega), hc, if_pos (nI_le (Nat.le_refl n) (by omega))]
/-- depth of the nodes of a row -/
def pm_rd (D : Nat → Nat) (r : Nat) : Nat := match r with
  | 0 => 0
  | i + 1 => D i + 1
theorem pm_depthLoop {g n : Nat} {D P : Nat → Nat} {pa : Nat → Int32} (hg : g ≤ 1) (hn : n ≤ 24) (h5 : ∀ k, k < n → P k ≤ k) (hD : ∀ k, k < n → D k = pm_rd D (P k)) (hp : ∀ k, k < n → pa (24 * g + k) = pu_r (P k)) :
    ∀ (m r d N : Nat), r ≤ m → r ≤ n → m < N → fl_M_depthOf_15 pa N (nI g, nI d, pu_r r) = some (nI (d + pm_rd D r)) := by
  intro m
  induction m with
  | zero =>
    intro r d N hr hrn hN
    have e : r = 0 := by omega
    subst e
    cases N with
    | zero => omega
    | succ N =>
      rw [fs_M_depthOf_15]
      unfold fb_M_depthOf_15
      rw [if_pos (by rw [pu_r0]; decide)]
      rfl
  | succ m ih =>
    intro r d N hr hrn hN
    cases N with
    | zero => omega
    | succ N =>
      cases r with
      | zero =>
        rw [fs_M_depthOf_15]
        unfold fb_M_depthOf_15
        rw [if_pos (by rw [pu_r0]; decide)]
        rfl
      | succ i =>
        rw [fs_M_depthOf_15]
        have := h5 i (by omega)
        unfold fb_M_depthOf_15
        rw [pu_rs, if_neg (nI_pos (by omega)), pm_ix, jv_gp (pu_g (by omega) (by decide)), nI_clamp (by omega), hp i (by omega), nI_1, ih (P i) (d + 1) N (by omega) (by omega) (by omega), show pm_rd D (i + 1) = D i + 1 from rfl, hD i (by omega)]
        congr 2
        omega
theorem pm_depth {g n j : Nat} {D P : Nat → Nat} {pa : Nat → Int32} (hg : g ≤ 1) (hn : n ≤ 24) (h5 : ∀ k, k < n → P k ≤ k) (hD : ∀ k, k < n → D k = pm_rd D (P k)) (hp : ∀ k, k < n → pa (24 * g + k) = pu_r (P k)) (hj : j < n) :
    fn_M_depthOf pa (nI g) (nI j) = some (nI (D j)) := by
  have := h5 j hj
  unfold fn_M_depthOf
  rw [pm_ix, jv_gp (pu_g (by omega) (by decide)), nI_clamp (by omega), hp j hj, show (0 : Int32) = nI 0 from rfl, pm_depthLoop hg hn h5 hD hp 24 (P j) 0 4000 (by omega) (by omega) (by omega), hD j hj]
  congr 2
  omega
theorem pm_nodeIn {n j : Nat} {cu : Nat → Int32} (hn : n ≤ 24) (hc : cu 0 = nI n) (hj : j < n) : fn_M_node cu (nI j) = some 1 := by
  unfold fn_M_node
  rw [if_neg (nI_pos (by omega)), jv_gp (by decide), show ((0 : Int32).toNatClampNeg) = 0 from rfl, hc, if_neg (nI_ge hj (by omega))]
theorem pm_nodeNo {n : Nat} {cu : Nat → Int32} {x : Int32} (hc : cu 0 = nI n) (h : x < 0 ∨ nI n ≤ x) : fn_M_node cu x = some 0 := by
  unfold fn_M_node
  by_cases h1 : x < 0
  · rw [if_pos h1]
  · rw [if_neg h1, jv_gp (by decide), show ((0 : Int32).toNatClampNeg) = 0 from rfl, hc]
    rcases h with q | q
    · exact absurd q h1
    · rw [if_pos q]
theorem pm_rowSize {g n r : Nat} {P : Nat → Nat} {cu pa : Nat → Int32} (hg : g ≤ 1) (hn : n ≤ 24) (hr : r < 2 ^ 31) (h5 : ∀ k, k < n → P k ≤ k) (hc : cu g = nI n) (hp : ∀ k, k < n → pa (24 * g + k) = pu_r (P k)) :
    fn_M_rowSize cu pa (nI g) (pu_r r) = some (nI (pu_c (fun k => decide (P k = r)) n)) := by
  unfold fn_M_rowSize fl_M_rowSize_5
  refine pu_lp _ (fun i => (nI g, pu_r r, nI (pu_c (fun k => decide (P k = r)) i), nI i)) n _ (fun i hi k => ?_) (fun k => ?_) n 0 4000 (by omega) (by omega)
  · show fb_M_rowSize_5 cu pa k (nI g) (pu_r r) (nI (pu_c (fun k => decide (P k = r)) i)) (nI i) = k (nI g, pu_r r, nI (pu_c (fun k => decide (P k = r)) i + (if decide (P i = r) = true then 1 else 0)), nI (i + 1))
    have := h5 i hi
    unfold fb_M_rowSize_5
    rw [jv_gp (pu_g (by omega) (by decide)), nI_clamp (by omega), hc, if_neg (nI_ge hi (by omega)), pm_ix, jv_gp (pu_g (by omega) (by decide)), nI_clamp (by omega), hp i hi, nI_1, nI_1, show (0 : Int32) = nI 0 from rfl, nI_add]
    by_cases q : P i = r
    · rw [if_pos (by rw [q]), if_pos (by simp [q])]
    · rw [if_neg (fun z => q ((pu_req (by omega) hr).mp z)), if_neg (by simp [q])]
  · show fb_M_rowSize_5 cu pa k (nI g) (pu_r r) (nI (pu_c (fun k => decide (P k = r)) n)) (nI n) = _
    unfold fb_M_rowSize_5
    rw [jv_gp (pu_g (by omega) (by decide)), nI_clamp (by omega), hc, if_pos (nI_le (Nat.le_refl n) (by omega))]
theorem pm_place {g n j : Nat} {P : Nat → Nat} {pa : Nat → Int32} (hg : g ≤ 1) (hn : n ≤ 24) (hj : j < n) (h5 : ∀ k, k < n → P k ≤ k) (hp : ∀ k, k < n → pa (24 * g + k) = pu_r (P k)) :
    fn_M_placeOf pa (nI g) (nI j) = some (nI (pu_c (fun k => decide (P k = P j)) (j + 1))) := by
  have hPj := h5 j hj
  unfold fn_M_placeOf fl_M_placeOf_5
  refine pu_lp _ (fun i => (nI g, nI j, nI (pu_c (fun k => decide (P k = P j)) i), nI i)) (j + 1) _ (fun i hi k => ?_) (fun k => ?_) (j + 1) 0 4000 (by omega) (by omega)
  · show fb_M_placeOf_5 pa k (nI g) (nI j) (nI (pu_c (fun k => decide (P k = P j)) i)) (nI i) = k (nI g, nI j, nI (pu_c (fun k => decide (P k = P j)) i + (if decide (P i = P j) = true then 1 else 0)), nI (i + 1))
    have := h5 i (by omega)
    unfold fb_M_placeOf_5
    rw [if_neg (nI_nlt (show i ≤ j by omega) (by omega)), pm_ix, pm_ix, jv_gp (pu_g (by omega) (by decide)), jv_gp (pu_g (by omega) (by decide)), nI_clamp (by omega), nI_clamp (by omega), hp i (by omega), hp j hj, nI_1, nI_1, show (0 : Int32) = nI 0 from rfl, nI_add]
    by_cases q : P i = P j
    · rw [if_pos (by rw [q]), if_pos (by simp [q])]
    · rw [if_neg (fun z => q ((pu_req (by omega) (by omega)).mp z)), if_neg (by simp [q])]
  · show fb_M_placeOf_5 pa k (nI g) (nI j) (nI (pu_c (fun k => decide (P k = P j)) (j + 1))) (nI (j + 1)) = _
    unfold fb_M_placeOf_5
    rw [if_pos (nI_lt (by omega) (by omega))]
