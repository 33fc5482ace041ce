/-! Pure rows: what the class's functions answer over a report in mathematical words. -/
theorem pn_codeAt {l : List Nat} (h : pu_ok l) {i : Nat} (hi : i ≤ 6) : fn_N_codeAt (lN (pu_k l)) (nI i) = some (nI (l.getD i 0)) := by
  have h42 := pu_k_lt42 h
  unfold fn_N_codeAt
  rw [show (7 : Int32) = nI 7 from rfl, pk_mul, wb_shr (by omega) (by omega), lN_i, show (127 : Int32) = 127 from rfl, pk_and _ 7 (by decide)]
  congr 2
  show (Int32.ofNat _).toBitVec.toNat % 2 ^ 7 = _
  rw [← pu_k_at l (fun c hc => (h.2 c hc).2) i]
  show (BitVec.ofNat 32 _).toNat % 2 ^ 7 = _
  rw [BitVec.toNat_ofNat]
  omega
theorem pn_getD_pos {l : List Nat} (h : pu_ok l) {i : Nat} (hi : i < l.length) : 32 ≤ l.getD i 0 ∧ l.getD i 0 ≤ 126 := by
  rw [List.getD_eq_getElem?_getD, List.getElem?_eq_getElem hi]
  exact h.2 _ (List.getElem_mem hi)
theorem pn_sizeOf {l : List Nat} (h : pu_ok l) : fn_N_sizeOf (lN (pu_k l)) = some (nI l.length) := by
  have h6 := h.1
  unfold fn_N_sizeOf fl_N_sizeOf_2
  refine pu_lp _ (fun i => (lN (pu_k l), nI i)) l.length _ (fun i hi k => ?_) (fun k => ?_) l.length 0 4000 (by omega) (by omega)
  · have hp := pn_getD_pos h hi
    show fb_N_sizeOf_2 k (lN (pu_k l)) (nI i) = k (lN (pu_k l), nI (i + 1))
    unfold fb_N_sizeOf_2
    rw [if_neg (show ¬ (6 : Int32) ≤ nI i from nI_ge (b := 6) (by omega) (by decide)), pn_codeAt h (by omega)]
    rw [Option.bind_some]
    rw [if_neg (nI_ne0 (by omega) (by omega)), nI_1]
  · show fb_N_sizeOf_2 k (lN (pu_k l)) (nI l.length) = some (nI l.length)
    unfold fb_N_sizeOf_2
    by_cases e : 6 ≤ l.length
    · rw [if_pos (show (6 : Int32) ≤ nI l.length from nI_le (a := 6) e (by omega))]
    · rw [if_neg (show ¬ (6 : Int32) ≤ nI l.length from nI_ge (b := 6) (by omega) (by decide)), pn_codeAt h (by omega)]
      rw [Option.bind_some]
      rw [if_pos (by rw [List.getD_eq_getElem?_getD, List.getElem?_eq_none (Nat.le_refl _)]; rfl)]
theorem pn_with {l : List Nat} (h : pu_ok l) {c : Nat} (hc : c ≤ 126) (h6 : l.length < 6) : fn_N_withLetter (lN (pu_k l)) (nI l.length) (nI c) = some (lN (pu_k (l ++ [c]))) := by
  have h1 := pu_k_lt l (fun c hc => (h.2 c hc).2)
  unfold fn_N_withLetter
  rw [show (7 : Int32) = nI 7 from rfl, pk_mul, nI_l (by omega), wb_shl _ (by omega), pu_k_snoc]
  congr 1
  refine g_or' (k := 7 * l.length) rfl h1 ?_
  have h2 : 2 ^ (7 * l.length) ≤ 2 ^ 35 := Nat.pow_le_pow_right (by decide) (by omega)
  have h3 : c * 2 ^ (7 * l.length) ≤ 126 * 2 ^ 35 := Nat.mul_le_mul hc h2
  omega
theorem pn_snoc {l : List Nat} (h : pu_ok l) {c : Nat} (h1 : 32 ≤ c) (h2 : c ≤ 126) (h6 : l.length < 6) : pu_ok (l ++ [c]) := by
  refine ⟨by rw [List.length_append]; show l.length + 1 ≤ 6; omega, fun d hd => ?_⟩
  rcases List.mem_append.mp hd with q | q
  · exact h.2 d q
  · rw [List.mem_singleton] at q
    rw [q]
    exact ⟨h1, h2⟩
theorem pn_cmp (x y : Int64) : lg_cmp x y = 0 ↔ x = y := by
  unfold lg_cmp
  by_cases h1 : x > y
  · rw [if_pos h1]
    exact ⟨fun q => absurd q (by decide), fun q => absurd (q ▸ h1) (Int64.lt_irrefl)⟩
  · rw [if_neg h1]
    by_cases h2 : x = y
    · rw [if_pos h2]
      exact ⟨fun _ => h2, fun _ => rfl⟩
    · rw [if_neg h2]
      exact ⟨fun q => absurd q (by decide), fun q => absurd q h2⟩
theorem pn_lN_inj {l m : List Nat} (hl : pu_ok l) (hm : pu_ok m) : lN (pu_k l) = lN (pu_k m) ↔ l = m := by
  have h1 := pu_k_lt42 hl
  have h2 := pu_k_lt42 hm
  rw [pk_lEQ (by omega) (by omega)]
  exact ⟨pu_k_inj hl hm, fun q => by rw [q]⟩
/-- the class's report holds n nodes with kinds K, depths D, rows P, names N; L the innermost row, O open suites -/
def rc_ (n : Nat) (K D P : Nat → Nat) (N : Nat → List Nat) (L O : Nat) (ct lo oc : Int32) (kd dp su : Nat → Int32) (nm : Nat → Int64) : Prop :=
  ct = nI n ∧ lo = pu_r L ∧ oc = nI O ∧ (∀ k, k < n → kd k = nI (K k)) ∧ (∀ k, k < n → dp k = nI (D k)) ∧ (∀ k, k < n → su k = pu_r (P k)) ∧ ∀ k, k < n → nm k = lN (pu_k (N k))
theorem pc_hasIn {n j : Nat} (hn : n ≤ 24) (h : j < n) : fn_R_has (nI n) (nI j) = some 1 := by
  unfold fn_R_has
  rw [if_neg (nI_pos (by omega)), if_neg (nI_ge h (by omega))]
theorem pc_hasNo {n : Nat} {x : Int32} (h : x < 0 ∨ nI n ≤ x) : fn_R_has (nI n) x = some 0 := by
  unfold fn_R_has
  by_cases h1 : x < 0
  · rw [if_pos h1]
  · rw [if_neg h1]
    rcases h with q | q
    · exact absurd q h1
    · rw [if_pos q]
theorem pc_has0 {n : Nat} : fn_R_has (nI n) (pu_r 0) = some 0 := pc_hasNo (Or.inl (by rw [pu_r0]; decide))
theorem pc_kindIn {n j : Nat} {K : Nat → Nat} {kd : Nat → Int32} (hn : n ≤ 24) (h : j < n) (hk : ∀ k, k < n → kd k = nI (K k)) : fn_R_kindOf (nI n) kd (nI j) = some (nI (K j)) := by
  unfold fn_R_kindOf
  rw [pc_hasIn hn h]
  rw [Option.bind_some]
  rw [if_neg (by decide), jv_gp (pu_g (by omega) (by decide)), nI_clamp (by omega), hk j h]
theorem pc_depthIn {n j : Nat} {D : Nat → Nat} {dp : Nat → Int32} (hn : n ≤ 24) (h : j < n) (hk : ∀ k, k < n → dp k = nI (D k)) : fn_R_depthOf (nI n) dp (nI j) = some (nI (D j)) := by
  unfold fn_R_depthOf
  rw [pc_hasIn hn h]
  rw [Option.bind_some]
  rw [if_neg (by decide), jv_gp (pu_g (by omega) (by decide)), nI_clamp (by omega), hk j h]
theorem pc_suiteIn {n j : Nat} {P : Nat → Nat} {su : Nat → Int32} (hn : n ≤ 24) (h : j < n) (hk : ∀ k, k < n → su k = pu_r (P k)) : fn_R_suiteOf (nI n) su (nI j) = some (pu_r (P j)) := by
  unfold fn_R_suiteOf
  rw [pc_hasIn hn h]
  rw [Option.bind_some]
  rw [if_neg (by decide), jv_gp (pu_g (by omega) (by decide)), nI_clamp (by omega), hk j h]
theorem pc_nameIn {n j : Nat} {N : Nat → List Nat} {nm : Nat → Int64} (hn : n ≤ 24) (h : j < n) (hk : ∀ k, k < n → nm k = lN (pu_k (N k))) : fn_R_nameOf (nI n) nm (nI j) = some (lN (pu_k (N j))) := by
  unfold fn_R_nameOf
  rw [pc_hasIn hn h]
  rw [Option.bind_some]
  rw [if_neg (by decide), jv_gp (pu_g (by omega) (by decide)), nI_clamp (by omega), hk j h]
theorem pc_rowDepthS {n j : Nat} {D : Nat → Nat} {dp : Nat → Int32} (hn : n ≤ 24) (h : j < n) (hk : ∀ k, k < n → dp k = nI (D k)) : fn_R_rowDepth (nI n) dp (nI j) = some (nI (D j + 1)) := by
  unfold fn_R_rowDepth
  rw [pc_hasIn hn h]
  rw [Option.bind_some]
  rw [if_neg (by decide), jv_gp (pu_g (by omega) (by decide)), nI_clamp (by omega), hk j h, nI_1]
theorem pc_rowDepth0 {n : Nat} {dp : Nat → Int32} : fn_R_rowDepth (nI n) dp (pu_r 0) = some 0 := by
  unfold fn_R_rowDepth
  rw [pc_has0]
  rfl
theorem pc_testIn {n j : Nat} {K : Nat → Nat} {kd : Nat → Int32} (hn : n ≤ 24) (h : j < n) (h6 : K j ≤ 6) (hk : ∀ k, k < n → kd k = nI (K k)) : fn_R_isTest (nI n) kd (nI j) = some (if K j < 4 then 1 else 0) := by
  unfold fn_R_isTest
  rw [pc_hasIn hn h]
  rw [Option.bind_some]
  rw [if_neg (by decide), jv_gp (pu_g (by omega) (by decide)), nI_clamp (by omega), hk j h]
  by_cases e : K j < 4
  · rw [if_neg (show ¬ (3 : Int32) < nI (K j) from nI_nlt (b := K j) (a := 3) (by omega) (by decide)), if_pos e]
  · rw [if_pos (show (3 : Int32) < nI (K j) from nI_lt (a := 3) (by omega) (by omega)), if_neg e]
theorem pc_testNo {n : Nat} {kd : Nat → Int32} {x : Int32} (h : x < 0 ∨ nI n ≤ x) : fn_R_isTest (nI n) kd x = some 0 := by
  unfold fn_R_isTest
  rw [pc_hasNo h]
  rfl
theorem pc_count {n e r : Nat} {P : Nat → Nat} {su : Nat → Int32} (hn : n ≤ 24) (he : e ≤ n) (hr : r < 2 ^ 31) (hP : ∀ k, k < n → P k < 2 ^ 31) (hk : ∀ k, k < n → su k = pu_r (P k)) : fn_R_countInRow (nI n) su (pu_r r) (nI e) = some (nI (pu_c (fun k => decide (P k = r)) e)) := by
  unfold fn_R_countInRow fl_R_countInRow_5
  refine pu_lp _ (fun i => (pu_r r, nI e, nI (pu_c (fun k => decide (P k = r)) i), nI i)) e _ (fun i hi k => ?_) (fun k => ?_) e 0 4000 (by omega) (by omega)
  · show fb_R_countInRow_5 (nI n) su k (pu_r r) (nI e) (nI (pu_c (fun k => decide (P k = r)) i)) (nI i) = k (pu_r r, nI e, nI (pu_c (fun k => decide (P k = r)) (i + 1)), nI (i + 1))
    unfold fb_R_countInRow_5
    rw [if_neg (nI_ge hi (by omega)), if_neg (nI_ge (show i < n by omega) (by omega)), jv_gp (pu_g (by omega) (by decide)), nI_clamp (by omega), hk i (by omega), nI_1, nI_1]
    show _ = k (pu_r r, nI e, nI (pu_c (fun k => decide (P k = r)) i + (if decide (P i = r) = true then 1 else 0)), nI (i + 1))
    by_cases q : P i = r
    · rw [if_pos (by rw [q]), if_pos (by simp [q])]
    · rw [if_neg (fun z => q ((pu_req (hP i (by omega)) hr).mp z)), if_neg (by simp [q])]
      rfl
  · show fb_R_countInRow_5 (nI n) su k (pu_r r) (nI e) (nI (pu_c (fun k => decide (P k = r)) e)) (nI e) = _
    unfold fb_R_countInRow_5
    rw [if_pos (nI_le (Nat.le_refl e) (by omega))]
