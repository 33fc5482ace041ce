/-! Pure rows: suites ended on the way outwards, by both sides. -/
theorem ch_zero (P : Nat → Nat) (i : Nat) : pq_it P i 0 = 0 := by
  induction i with
  | zero => rfl
  | succ i ih => exact ih
theorem ch_min {P : Nat → Nat} {r t : Nat} (h : pq_on P r t) : ∃ j, pq_it P j r = t ∧ ∀ i, i < j → pq_it P i r ≠ t := pk_least (fun j => pq_it P j r = t) h
theorem ch_step {P : Nat → Nat} {r t j : Nat} (h : pq_it P (j + 1) r = t) (h2 : ∀ i, i < j + 1 → pq_it P i r ≠ t) : ∃ s, r = s + 1 ∧ pq_it P j (P s) = t ∧ ∀ i, i < j → pq_it P i (P s) ≠ t := by
  cases r with
  | zero =>
    rw [ch_zero] at h
    exact absurd h (h2 0 (by omega))
  | succ s => exact ⟨s, rfl, h, fun i hi => h2 (i + 1) (by omega)⟩
def tok_ (l : List Nat) : Prop := ∀ c, c ∈ l → c = 10 ∨ (32 ≤ c ∧ c ≤ 126)
theorem tok_app {a b : List Nat} (ha : tok_ a) (hb : tok_ b) : tok_ (a ++ b) := fun c hc => (List.mem_append.mp hc).elim (ha c) (hb c)
theorem tok_tx : ∀ i, i < 11 → ∀ c ∈ tx_ i, c = 10 ∨ (32 ≤ c ∧ c ≤ 126) := by decide +kernel
theorem tok_10 : tok_ [10] := fun c hc => Or.inl (List.mem_singleton.mp hc)
theorem tok_in (d : Nat) : tok_ (in_d d) := fun c hc => by
  have := List.eq_of_mem_replicate hc
  omega
theorem tok_nu {m : Nat} (hm : m < 100) : tok_ (nu_ m) := by
  intro c hc
  unfold nu_ at hc
  by_cases h : m < 10
  · rw [if_pos h] at hc
    have := List.mem_singleton.mp hc
    omega
  · rw [if_neg h] at hc
    simp only [List.mem_cons, List.not_mem_nil, or_false] at hc
    omega
theorem tok_es {l : List Nat} (hl : ∀ c, c ∈ l → 32 ≤ c ∧ c ≤ 126) : tok_ (es_ l) := by
  induction l with
  | nil => exact fun c hc => by cases hc
  | cons d l ih =>
    have hd := hl d List.mem_cons_self
    refine tok_app ?_ (ih (fun c hc => hl c (List.mem_cons_of_mem _ hc)))
    intro c hc
    by_cases h : d = 92 ∨ d = 35
    · rw [if_pos h] at hc
      simp only [List.mem_cons, List.not_mem_nil, or_false] at hc
      omega
    · rw [if_neg h] at hc
      have := List.mem_singleton.mp hc
      omega
/-- the lines of the suites that end, from row r on, j of them -/
def fe_ (n : Nat) (K D P : Nat → Nat) (N : Nat → List Nat) : Nat → Nat → List Nat
  | 0, _ => []
  | _ + 1, 0 => []
  | j + 1, s + 1 => (tp_ D P n (s + 1) ++ tv_ K D P N s) ++ fe_ n K D P N j (P s)
section Fe
variable {n : Nat} {K D P : Nat → Nat} {N : Nat → List Nat} {L O : Nat}
theorem tp_len (r : Nat) : (tp_ D P n r).length ≤ 4 * pm_rd D r + 6 := by
  have h1 := in_len (pm_rd D r)
  have h2 := nu_len (rs_ P n r)
  have h3 : (tx_ 8).length = 3 := by decide
  unfold tp_
  simp only [List.length_append]
  show _ + _ + _ + 1 ≤ _
  omega
theorem t0_len (hv : iv_ n K D P N L O) (v k : Nat) (hk : k < n) (hvv : v = 3 ∨ v = 4) : (t0_ D P N v k).length ≤ 4 * D k + 24 := by
  have h1 := in_len (D k)
  have h2 := nu_len (pl_ P k)
  have h3 : (tx_ 5).length = 3 := by decide
  have h4 : (tx_ v).length ≤ 7 := by
    rcases hvv with e | e <;> rw [e] <;> decide
  have h5 := es_len (N k)
  have h6 := (iv_N hv k hk).1
  unfold t0_
  simp only [List.length_append]
  omega
theorem vd_34 (k : Nat) : vd_ k = 3 ∨ vd_ k = 4 := by
  unfold vd_
  by_cases h : k = 1 ∨ k = 3 ∨ k = 5
  · rw [if_pos h]; exact Or.inr rfl
  · rw [if_neg h]; exact Or.inl rfl
theorem tv_len (hv : iv_ n K D P N L O) (k : Nat) (hk : k < n) : (tv_ K D P N k).length ≤ 4 * D k + 32 ∧ (4 ≤ K k → (tv_ K D P N k).length ≤ 4 * D k + 25) := by
  have h1 := t0_len hv (vd_ (K k)) k hk (vd_34 _)
  have h2 : (tx_ (dr_ (K k))).length ≤ 7 := by
    unfold dr_
    by_cases h : K k = 2
    · rw [if_pos h]; decide
    · rw [if_neg h]
      by_cases h : K k = 3
      · rw [if_pos h]; decide
      · rw [if_neg h]; decide
  have e : (tv_ K D P N k).length = (t0_ D P N (vd_ (K k)) k).length + (tx_ (dr_ (K k))).length + 1 := by
    unfold tv_
    simp only [List.length_append]
    rfl
  refine ⟨by omega, fun h4 => ?_⟩
  have h3 : dr_ (K k) = 10 := by
    unfold dr_
    rw [if_neg (by omega), if_neg (by omega)]
  rw [e, h3]
  have : (tx_ 10).length = 0 := by decide
  omega
theorem ts_len (hv : iv_ n K D P N L O) (k : Nat) (hk : k < n) : (ts_ D N k).length ≤ 4 * D k + 24 := by
  have h1 := in_len (D k)
  have h3 : (tx_ 2).length = 11 := by decide
  have h5 := es_len (N k)
  have h6 := (iv_N hv k hk).1
  unfold ts_
  simp only [List.length_append]
  show _ + _ + _ + 1 ≤ _
  omega
theorem tok_tp (hn : n ≤ 24) (r : Nat) : tok_ (tp_ D P n r) := tok_app (tok_app (tok_app (tok_in _) (tok_tx 8 (by omega))) (tok_nu (rs_lt n r hn))) tok_10
theorem tok_t0 (hv : iv_ n K D P N L O) (v k : Nat) (hk : k < n) (h : v < 11) : tok_ (t0_ D P N v k) := tok_app (tok_app (tok_app (tok_app (tok_in _) (tok_tx v h)) (tok_nu (pl_lt k (by have := iv_n hv; omega)))) (tok_tx 5 (by omega))) (tok_es (iv_N hv k hk).2)
theorem tok_tv (hv : iv_ n K D P N L O) (k : Nat) (hk : k < n) : tok_ (tv_ K D P N k) := tok_app (tok_app (tok_t0 hv _ k hk (vd_lt _)) (tok_tx _ (dr_lt _))) tok_10
theorem tok_ts (hv : iv_ n K D P N L O) (k : Nat) (hk : k < n) : tok_ (ts_ D N k) := tok_app (tok_app (tok_app (tok_in _) (tok_tx 2 (by omega))) (tok_es (iv_N hv k hk).2)) tok_10
theorem fe_all (hv : iv_ n K D P N L O) {t : Nat} : ∀ (j r : Nat), r ≤ n → pq_it P j r = t → (∀ i, i < j → pq_it P i r ≠ t) → (∀ s, r = s + 1 → 4 ≤ K s) → (fe_ n K D P N j r).length ≤ 51 * j ∧ pm_rd D r = j + pm_rd D t ∧ tok_ (fe_ n K D P N j r) := by
  intro j
  induction j with
  | zero =>
    intro r hr h1 h2 h3
    have e : r = t := h1
    exact ⟨Nat.le_refl 0, by rw [e]; omega, fun c hc => by cases hc⟩
  | succ j ih =>
    intro r hr h1 h2 h3
    obtain ⟨s, rfl, h4, h5⟩ := ch_step h1 h2
    have hs : s < n := by omega
    have hP := iv_5 hv s hs
    have hK := h3 s rfl
    have hD2 := hv.2.2.2.1.2 s hs hK
    obtain ⟨a1, a2, a3⟩ := ih (P s) (by omega) h4 h5 (fun i hi => (hv.2.2.1.2 s i hs hi).1)
    have l1 := tp_len (D := D) (P := P) (n := n) (s + 1)
    have l2 := (tv_len hv s hs).2 hK
    have l3 : pm_rd D (s + 1) = D s + 1 := rfl
    have l4 := iv_D hv s hs
    refine ⟨?_, by omega, tok_app (tok_app (tok_tp (iv_n hv) _) (tok_tv hv s hs)) a3⟩
    show ((tp_ D P n (s + 1) ++ tv_ K D P N s) ++ fe_ n K D P N j (P s)).length ≤ _
    simp only [List.length_append]
    omega
theorem fe_app (f : Nat → Int32) (z : Nat) (a b : List Nat) : (nI (z + a.length + b.length), pv_t (pv_t f z a) (z + a.length) b) = (nI (z + (a ++ b).length), pv_t f z (a ++ b)) := by rw [pv_app, List.length_append, Nat.add_assoc]
theorem lc_ends {ct lo oc : Int32} {kd dp su : Nat → Int32} {nm : Nat → Int64} (hv : iv_ n K D P N L O) (hc : rc_ n K D P N L O ct lo oc kd dp su nm) {t : Nat} (ht : t ≤ n) : ∀ (j r i F z : Nat) (f : Nat → Int32), j + i ≤ 3 → j < F → r ≤ n → pq_it P j r = t → (∀ i, i < j → pq_it P i r ≠ t) → z + (fe_ n K D P N j r).length ≤ 3000 → fl_W_endSuites_5 ct kd dp su nm F (nI z, f, pu_r t, pu_r r, nI i) = some (nI (z + (fe_ n K D P N j r).length), pv_t f z (fe_ n K D P N j r)) := by
  have hn := iv_n hv
  intro j
  induction j with
  | zero =>
    intro r i F z f hji hF hr h1 h2 hz
    cases F with
    | zero => omega
    | succ F =>
      have e : r = t := h1
      rw [fs_W_endSuites_5]
      unfold fb_W_endSuites_5
      show (if 3 ≤ nI i then some (nI z, f) else _) = some (nI z, pv_t f z [])
      rw [pv_t0]
      by_cases e3 : (3 : Int32) ≤ nI i
      · rw [if_pos e3]
      · rw [if_neg e3, if_pos (by rw [e])]
  | succ j ih =>
    intro r i F z f hji hF hr h1 h2 hz
    cases F with
    | zero => omega
    | succ F =>
      have h20 : r ≠ _ := h2 0 (by omega)
      obtain ⟨s, rfl, h4, h5⟩ := ch_step h1 h2
      have hs : s < n := by omega
      have hP := iv_5 hv s hs
      have hz2 : z + ((tp_ D P n (s + 1)).length + (tv_ K D P N s).length + (fe_ n K D P N j (P s)).length) ≤ 3000 := by
        have e : (fe_ n K D P N (j + 1) (s + 1)).length = (tp_ D P n (s + 1)).length + (tv_ K D P N s).length + (fe_ n K D P N j (P s)).length := by
          show ((tp_ D P n (s + 1) ++ tv_ K D P N s) ++ fe_ n K D P N j (P s)).length = _
          simp only [List.length_append]
        omega
      have e2 : fn_W_writeVerdict ct kd dp su nm (nI (z + (tp_ D P n (s + 1)).length)) (pv_t f z (tp_ D P n (s + 1))) (nI s) = _ := ww_ (F := fun z f => fn_W_writeVerdict ct kd dp su nm z f (nI s)) (lc_verdict hv hc hs) (a := tp_ D P n (s + 1)) (z := z) (f := f) (by simp only [List.length_append]; omega)
      rw [fs_W_endSuites_5]
      unfold fb_W_endSuites_5
      rw [if_neg (show ¬ (3 : Int32) ≤ nI i from nI_ge (b := 3) (by omega) (by decide)), if_neg (fun q => h20 ((pu_req (by omega) (by omega)).mp q)), lc_plan hv hc hr z f (by omega), Option.bind_some]
      dsimp only
      rw [pu_rs, e2, Option.bind_some, hc.1, pc_suiteIn hn hs hc.2.2.2.2.2.1, Option.bind_some, ← hc.1, nI_1]
      dsimp only
      rw [ih (P s) (i + 1) F (z + (tp_ D P n (s + 1) ++ tv_ K D P N s).length) (pv_t f z (tp_ D P n (s + 1) ++ tv_ K D P N s)) (by omega) (by omega) (by omega) h4 h5 (by simp only [List.length_append]; omega), fe_app]
      rfl
theorem lm_ends {cu pa re cl si lt : Nat → Int32} {k20 : Int32 × (Nat → Int32) × Int32 × Int32 → Option (Int32 × Int32 × (Nat → Int32))} (hv : iv_ n K D P N L O) (hm : rm_ 0 n K P N cu pa re cl si lt) {t k : Nat} (hk : k < n) (ht : P k = t) : ∀ (j r F z : Nat) (f : Nat → Int32), j < F → r ≤ n → pq_it P j r = t → (∀ i, i < j → pq_it P i r ≠ t) → (∀ s, t < s + 1 → pq_on P r (s + 1) → K s = 4 ∨ K s = 5) → z + (fe_ n K D P N j r).length ≤ 3000 →
    fl_M_write_30 cu pa re cl si lt k20 F (nI z, f, pu_r r, nI k) = fb_M_write_30 cu pa re cl si lt k20 (fl_M_write_30 cu pa re cl si lt k20 (F - j - 1)) (nI (z + (fe_ n K D P N j r).length)) (pv_t f z (fe_ n K D P N j r)) (pu_r t) (nI k) := by
  have hn := iv_n hv
  obtain ⟨m1, m2, m3, m4, m5⟩ := lm_0 hm
  have htk := iv_5 hv k hk
  intro j
  induction j with
  | zero =>
    intro r F z f hF hr h1 h2 h3 hz
    cases F with
    | zero => omega
    | succ F =>
      have e : r = t := h1
      rw [fs_M_write_30, show F + 1 - 0 - 1 = F by omega, e]
      show _ = fb_M_write_30 cu pa re cl si lt k20 (fl_M_write_30 cu pa re cl si lt k20 F) (nI z) (pv_t f z []) (pu_r t) (nI k)
      rw [pv_t0]
  | succ j ih =>
    intro r F z f hF hr h1 h2 h3 hz
    cases F with
    | zero => omega
    | succ F =>
      have h20 : r ≠ _ := h2 0 (by omega)
      obtain ⟨s, rfl, h4, h5⟩ := ch_step h1 h2
      have hs : s < n := by omega
      have hP := iv_5 hv s hs
      have hts : t ≤ P s := pq_le (fun q hq => iv_5 hv q (by omega)) ⟨j, h4⟩
      have e : fe_ n K D P N (j + 1) (s + 1) = (tp_ D P n (s + 1) ++ tv_ K D P N s) ++ fe_ n K D P N j (P s) := rfl
      have hz2 : z + ((tp_ D P n (s + 1) ++ tv_ K D P N s).length + (fe_ n K D P N j (P s)).length) ≤ 3000 := by
        rw [e, List.length_append] at hz
        exact hz
      rw [fs_M_write_30, fb_M_write_30, jv_gp (pu_g (by omega) (by decide)), nI_clamp (by omega), m1 k hk, ht, if_neg (fun q => h20 ((pu_req (by omega) (by omega)).mp q)), pu_rs, lm_finish hv hm hs (h3 s (by omega) (pq_refl _ _)) z f (by omega), Option.bind_some, jv_gp (pu_g (by omega) (by decide)), nI_clamp (by omega), m1 s hs]
      dsimp only
      rw [ih (P s) F (z + (tp_ D P n (s + 1) ++ tv_ K D P N s).length) (pv_t f z (tp_ D P n (s + 1) ++ tv_ K D P N s)) (by omega) (by omega) h4 h5 (fun q q1 q2 => h3 q q1 (pq_step q2)) (by omega), pv_app, e, show F + 1 - (j + 1) - 1 = F - j - 1 by omega]
      simp only [List.length_append, Nat.add_assoc]
theorem lm_last {cu pa re cl si lt : Nat → Int32} (hv : iv_ n K D P N L O) (hm : rm_ 0 n K P N cu pa re cl si lt) : ∀ (j r F z : Nat) (f : Nat → Int32), j < F → r ≤ n → pq_it P j r = L → (∀ i, i < j → pq_it P i r ≠ L) → (∀ s, L < s + 1 → pq_on P r (s + 1) → K s = 4 ∨ K s = 5) → z + (fe_ n K D P N j r).length ≤ 3000 →
    fl_M_write_146 cu pa re cl si lt F (nI z, f, pu_r r) = fb_M_write_174 cu pa re cl si lt (nI (z + (fe_ n K D P N j r).length)) (pv_t f z (fe_ n K D P N j r)) (pu_r L) := by
  have hn := iv_n hv
  obtain ⟨m1, m2, m3, m4, m5⟩ := lm_0 hm
  have hL := hv.1.2.1
  intro j
  induction j with
  | zero =>
    intro r F z f hF hr h1 h2 h3 hz
    cases F with
    | zero => omega
    | succ F =>
      have e : r = L := h1
      rw [fs_M_write_146, e]
      show _ = fb_M_write_174 cu pa re cl si lt (nI z) (pv_t f z []) (pu_r L)
      rw [pv_t0]
      unfold fb_M_write_146
      by_cases e0 : L = 0
      · rw [if_pos ((pu_rneg (by omega)).mpr e0)]
      · obtain ⟨i, hi⟩ : ∃ i, L = i + 1 := ⟨L - 1, by omega⟩
        have h6 := (iv_12 hv i hi).2
        rw [if_neg (fun q => e0 ((pu_rneg (by omega)).mp q)), hi, pu_rs, jv_gp (pu_g (by omega) (by decide)), nI_clamp (by omega), m3 i (by omega), if_pos (pu_b0.mpr (by simp [h6]))]
  | succ j ih =>
    intro r F z f hF hr h1 h2 h3 hz
    cases F with
    | zero => omega
    | succ F =>
      have h20 : r ≠ _ := h2 0 (by omega)
      obtain ⟨s, rfl, h4, h5⟩ := ch_step h1 h2
      have hs : s < n := by omega
      have hP := iv_5 hv s hs
      have hts : L ≤ P s := pq_le (fun q hq => iv_5 hv q (by omega)) ⟨j, h4⟩
      have hcl := h3 s (by omega) (pq_refl _ _)
      have e : fe_ n K D P N (j + 1) (s + 1) = (tp_ D P n (s + 1) ++ tv_ K D P N s) ++ fe_ n K D P N j (P s) := rfl
      have hz2 : z + ((tp_ D P n (s + 1) ++ tv_ K D P N s).length + (fe_ n K D P N j (P s)).length) ≤ 3000 := by
        rw [e, List.length_append] at hz
        exact hz
      rw [fs_M_write_146, fb_M_write_146, if_neg (fun q => by have := (pu_rneg (by omega)).mp q; omega), pu_rs, jv_gp (pu_g (by omega) (by decide)), nI_clamp (by omega), m3 s hs, if_neg (fun q => by have := pu_b0.mp q; simp at this; omega), lm_finish hv hm hs hcl z f (by omega), Option.bind_some, jv_gp (pu_g (by omega) (by decide)), m1 s hs]
      dsimp only
      rw [ih (P s) F (z + (tp_ D P n (s + 1) ++ tv_ K D P N s).length) (pv_t f z (tp_ D P n (s + 1) ++ tv_ K D P N s)) (by omega) (by omega) h4 h5 (fun q q1 q2 => h3 q q1 (pq_step q2)) (by omega), pv_app, e]
      simp only [List.length_append, Nat.add_assoc]
end Fe
