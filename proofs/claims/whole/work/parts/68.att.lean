/-! Pure rows: attempts. -/
/-- the names of a row's suites, from the row outwards -/
def pa_n (P : Nat → Nat) (N : Nat → List Nat) : Nat → Nat → List (List Nat)
  | 0, _ => []
  | _ + 1, 0 => []
  | f + 1, i + 1 => N i :: pa_n P N f (P i)
theorem pa_n0 (P : Nat → Nat) (N : Nat → List Nat) (f : Nat) : pa_n P N f 0 = [] := by cases f <;> rfl
theorem pa_fuel {P : Nat → Nat} {N : Nat → List Nat} {n : Nat} (h5 : ∀ k, k < n → P k ≤ k) : ∀ (f r f2 : Nat), r ≤ f → r ≤ f2 → r ≤ n → pa_n P N f r = pa_n P N f2 r := by
  intro f
  induction f with
  | zero =>
    intro r f2 h1 h2 h3
    rw [show r = 0 by omega, pa_n0, pa_n0]
  | succ f ih =>
    intro r f2 h1 h2 h3
    cases r with
    | zero => rw [pa_n0, pa_n0]
    | succ i =>
      cases f2 with
      | zero => omega
      | succ f2 =>
        have := h5 i (by omega)
        show N i :: pa_n P N f (P i) = N i :: pa_n P N f2 (P i)
        rw [ih (P i) f2 (by omega) (by omega) (by omega)]
abbrev pa_c (P : Nat → Nat) (N : Nat → List Nat) (r : Nat) : List (List Nat) := pa_n P N 24 r
theorem pa_c_s {P : Nat → Nat} {N : Nat → List Nat} {n i : Nat} (hn : n ≤ 24) (h5 : ∀ k, k < n → P k ≤ k) (hi : i < n) : pa_c P N (i + 1) = N i :: pa_c P N (P i) := by
  have := h5 i hi
  show N i :: pa_n P N 23 (P i) = N i :: pa_n P N 24 (P i)
  rw [pa_fuel h5 23 (P i) 24 (by omega) (by omega) (by omega)]
theorem pa_len {n : Nat} {D P : Nat → Nat} {N : Nat → List Nat} (hn : n ≤ 24) (h5 : ∀ k, k < n → P k ≤ k) (hD : ∀ k, k < n → D k = pm_rd D (P k)) : ∀ r, r ≤ n → (pa_c P N r).length = pm_rd D r := by
  have go : ∀ m r, r ≤ m → r ≤ n → (pa_c P N r).length = pm_rd D r := by
    intro m
    induction m with
    | zero =>
      intro r h1 h2
      rw [show r = 0 by omega]
      rfl
    | succ m ih =>
      intro r h1 h2
      cases r with
      | zero => rfl
      | succ i =>
        have := h5 i (by omega)
        rw [pa_c_s hn h5 (by omega), List.length_cons, ih (P i) (by omega) (by omega), ← hD i (by omega)]
        rfl
  exact fun r h => go r r (Nat.le_refl r) h
theorem pa_m1 (d : Nat) : nI d + (-1) = pu_r d := by
  unfold pu_r
  rw [Int32.sub_eq_add_neg]
theorem pa_clsLoop {n : Nat} {D P : Nat → Nat} {N : Nat → List Nat} {kd dp su : Nat → Int32} {nm : Nat → Int64} (hn : n ≤ 24) (h5 : ∀ k, k < n → P k ≤ k) (hN : ∀ k, k < n → pu_ok (N k)) (hD : ∀ k, k < n → D k = pm_rd D (P k)) (hs : ∀ k, k < n → su k = pu_r (P k)) (hm : ∀ k, k < n → nm k = lN (pu_k (N k))) :
    ∀ (d ra rb F : Nat), d ≤ 24 → ra ≤ n → rb ≤ n → pm_rd D ra = d → pm_rd D rb = d → d < F → fl_R_areAttempts_46 (nI n) kd dp su nm F (pu_r ra, pu_r rb, pu_r d) = some (pu_b (decide (pa_c P N ra = pa_c P N rb))) := by
  intro d
  induction d with
  | zero =>
    intro ra rb F hd ha hb e1 e2 hF
    cases F with
    | zero => omega
    | succ F =>
      rw [fs_R_areAttempts_46]
      unfold fb_R_areAttempts_46
      rw [if_pos (by rw [pu_r0]; decide)]
      have z1 : ra = 0 := by
        cases ra with
        | zero => rfl
        | succ i => unfold pm_rd at e1; simp at e1
      have z2 : rb = 0 := by
        cases rb with
        | zero => rfl
        | succ i => unfold pm_rd at e2; simp at e2
      rw [z1, z2]
      simp [pu_b]
  | succ d ih =>
    intro ra rb F hd ha hb e1 e2 hF
    cases F with
    | zero => omega
    | succ F =>
      cases ra with
      | zero => unfold pm_rd at e1; simp at e1
      | succ i =>
        cases rb with
        | zero => unfold pm_rd at e2; simp at e2
        | succ k =>
          have f1 : D i = d := by have z : D i + 1 = d + 1 := e1; omega
          have f2 : D k = d := by have z : D k + 1 = d + 1 := e2; omega
          have p1 := h5 i (by omega)
          have p2 := h5 k (by omega)
          rw [fs_R_areAttempts_46]
          unfold fb_R_areAttempts_46
          rw [pu_rs, pu_rs, pu_rs, if_neg (nI_pos (by omega)), pc_nameIn hn (by omega) hm, pc_nameIn hn (by omega) hm, Option.bind_some, Option.bind_some]
          rw [pa_c_s hn h5 (show i < n by omega), pa_c_s hn h5 (show k < n by omega)]
          by_cases e : N i = N k
          · rw [if_pos ((pn_cmp _ _).mpr (by rw [e])), pc_suiteIn hn (by omega) hs, pc_suiteIn hn (by omega) hs, Option.bind_some, Option.bind_some]
            show fl_R_areAttempts_46 (nI n) kd dp su nm F (pu_r (P i), pu_r (P k), nI d + (-1)) = _
            rw [pa_m1 d, ih (P i) (P k) F (by omega) (by omega) (by omega) (by rw [← hD i (by omega)]; exact f1) (by rw [← hD k (by omega)]; exact f2) (by omega), e]
            simp
          · rw [if_neg (fun q => e ((pn_lN_inj (hN i (by omega)) (hN k (by omega))).mp ((pn_cmp _ _).mp q)))]
            simp [e, pu_b]
theorem pa_attIn {n i k : Nat} {K D P : Nat → Nat} {N : Nat → List Nat} {kd dp su : Nat → Int32} {nm : Nat → Int64} (hn : n ≤ 24) (h5 : ∀ k, k < n → P k ≤ k) (h6 : ∀ k, k < n → K k ≤ 6) (h9 : ∀ k, k < n → D k ≤ 3) (hN : ∀ k, k < n → pu_ok (N k)) (hD : ∀ k, k < n → D k = pm_rd D (P k)) (hk : ∀ k, k < n → kd k = nI (K k)) (hd : ∀ k, k < n → dp k = nI (D k)) (hs : ∀ k, k < n → su k = pu_r (P k)) (hm : ∀ k, k < n → nm k = lN (pu_k (N k))) (hi : i < n) (hk2 : k < n) :
    fn_R_areAttempts (nI n) kd dp su nm (nI i) (nI k) = some (pu_b (decide (K i < 4 ∧ K k < 4 ∧ pa_c P N (i + 1) = pa_c P N (k + 1)))) := by
  unfold fn_R_areAttempts
  rw [pc_testIn hn hi (h6 i hi) hk, pc_testIn hn hk2 (h6 k hk2) hk]
  by_cases e1 : K i < 4
  · rw [if_pos e1]
    by_cases e2 : K k < 4
    · rw [if_pos e2]
      rw [Option.bind_some, Option.bind_some]
      rw [if_neg (by decide), if_neg (by decide), jv_gp (pu_g (by omega) (by decide)), jv_gp (pu_g (by omega) (by decide)), nI_clamp (by omega), nI_clamp (by omega), hd i hi, hd k hk2, jv_gp (pu_g (by omega) (by decide))]
      have d1 := h9 i hi
      have d2 := h9 k hk2
      by_cases e : D i = D k
      · rw [if_pos (by rw [e]), show (nI i, nI k, nI (D i)) = (pu_r (i + 1), pu_r (k + 1), pu_r (D i + 1)) by rw [pu_rs, pu_rs, pu_rs], pa_clsLoop hn h5 hN hD hs hm (D i + 1) (i + 1) (k + 1) 4000 (by omega) (by omega) (by omega) rfl (by show D k + 1 = D i + 1; omega) (by omega)]
        simp [e1, e2]
      · rw [if_neg (fun q => e ((nI_eq (by omega) (by omega)).mp q))]
        have ne : ¬ pa_c P N (i + 1) = pa_c P N (k + 1) := by
          intro q
          have l1 := pa_len (N := N) hn h5 hD (i + 1) (by omega)
          have l2 := pa_len (N := N) hn h5 hD (k + 1) (by omega)
          rw [q, l2] at l1
          exact e (by have z : D k + 1 = D i + 1 := l1; omega)
        simp [ne, pu_b]
    · rw [if_neg e2]
      rw [Option.bind_some, Option.bind_some]
      rw [if_neg (by decide), if_pos rfl]
      simp [e2, pu_b]
  · rw [if_neg e1]
    rw [Option.bind_some]
    rw [if_pos rfl]
    simp [e1, pu_b]
/-- the reference's walk along two ways outwards -/
theorem pa_refLoop {n : Nat} {P : Nat → Nat} {N : Nat → List Nat} {pa re si lt : Nat → Int32} (hn : n ≤ 24) (h5 : ∀ k, k < n → P k ≤ k) (hN : ∀ k, k < n → pu_ok (N k)) (hp : ∀ k, k < n → pa k = pu_r (P k)) (hs : ∀ k, k < n → si k = nI (N k).length) (hl : ∀ k, k < n → ∀ i, i < (N k).length → lt (6 * k + i) = nI ((N k).getD i 0)) :
    ∀ (m ra rb F : Nat) (sm : Bool), ra ≤ m → ra ≤ n → rb ≤ n → m < F → fl_M_alike_32 pa re si lt F (pu_b sm, pu_r ra, pu_r rb) = some (pu_b (sm && decide (pa_c P N ra = pa_c P N rb))) := by
  have fin : ∀ (ra rb F : Nat) (sm : Bool), ra ≤ n → rb ≤ n → (ra = 0 ∨ rb = 0) → fb_M_alike_32 pa re si lt (fl_M_alike_32 pa re si lt F) (pu_b sm) (pu_r ra) (pu_r rb) = some (pu_b (sm && decide (pa_c P N ra = pa_c P N rb))) := by
    intro ra rb F sm h1 h2 h0
    have e84 : fb_M_alike_32 pa re si lt (fl_M_alike_32 pa re si lt F) (pu_b sm) (pu_r ra) (pu_r rb) = fb_M_alike_84 pa re si lt (pu_b sm) (pu_r ra) (pu_r rb) := by
      unfold fb_M_alike_32
      by_cases e : ra = 0
      · rw [if_pos ((pu_rneg (by omega)).mpr e)]
      · rw [if_neg (fun q => e ((pu_rneg (by omega)).mp q)), if_pos ((pu_rneg (by omega)).mpr (by omega))]
    rw [e84]
    unfold fb_M_alike_84
    cases sm with
    | false => rfl
    | true =>
      rw [if_neg (show ¬ pu_b true = 0 by decide)]
      by_cases e1 : ra = 0
      · rw [if_neg (fun q => (pu_rpos (by omega)).mp q e1)]
        by_cases e2 : rb = 0
        · rw [if_neg (fun q => (pu_rpos (by omega)).mp q e2), e1, e2]
          simp [pu_b]
        · rw [if_pos ((pu_rpos (by omega)).mpr e2)]
          obtain ⟨k, hk⟩ : ∃ k, rb = k + 1 := ⟨rb - 1, by omega⟩
          rw [e1, hk, pa_c_s hn h5 (by omega)]
          simp [pu_b, pa_n0]
      · rw [if_pos ((pu_rpos (by omega)).mpr e1)]
        obtain ⟨k, hk⟩ : ∃ k, ra = k + 1 := ⟨ra - 1, by omega⟩
        have e2 : rb = 0 := by omega
        rw [e2, hk, pa_c_s hn h5 (by omega)]
        simp [pu_b, pa_n0]
  intro m
  induction m with
  | zero =>
    intro ra rb F sm h1 h2 h3 hF
    cases F with
    | zero => omega
    | succ F =>
      rw [fs_M_alike_32]
      exact fin ra rb F sm h2 h3 (by omega)
  | succ m ih =>
    intro ra rb F sm h1 h2 h3 hF
    cases F with
    | zero => omega
    | succ F =>
      by_cases e : ra = 0 ∨ rb = 0
      · rw [fs_M_alike_32]
        exact fin ra rb F sm h2 h3 e
      · obtain ⟨i, hi⟩ : ∃ i, ra = i + 1 := ⟨ra - 1, by omega⟩
        obtain ⟨k, hk⟩ : ∃ k, rb = k + 1 := ⟨rb - 1, by omega⟩
        subst hi
        subst hk
        have p1 := h5 i (by omega)
        have p2 := h5 k (by omega)
        have key : ∀ s2 : Bool, fb_M_alike_62 pa re si lt (fl_M_alike_32 pa re si lt F) (nI i) (nI k) (pu_b s2) = some (pu_b (s2 && decide (pa_c P N (P i) = pa_c P N (P k)))) := by
          intro s2
          unfold fb_M_alike_62
          rw [jv_gp (pu_g (by omega) (by decide)), jv_gp (pu_g (by omega) (by decide)), nI_clamp (by omega), nI_clamp (by omega), hp i (by omega), hp k (by omega)]
          exact ih (P i) (P k) F s2 (by omega) (by omega) (by omega) (by omega)
        rw [fs_M_alike_32]
        unfold fb_M_alike_32
        rw [pu_rs, pu_rs, if_neg (nI_pos (by omega)), if_neg (nI_pos (by omega)), pa_c_s hn h5 (show i < n by omega), pa_c_s hn h5 (show k < n by omega)]
        cases sm with
        | false =>
          rw [if_pos (show pu_b false = 0 by decide)]
          exact key false
        | true =>
          rw [if_neg (show ¬ pu_b true = 0 by decide), pm_same (by omega) (by omega) (hN i (by omega)) (hN k (by omega)) (hs i (by omega)) (hs k (by omega)) (hl i (by omega)) (hl k (by omega))]
          rw [Option.bind_some]
          by_cases e : N i = N k
          · rw [if_neg (by simp [e, pu_b]), show (1 : Int32) = pu_b true from rfl, key true]
            simp [e]
          · rw [if_pos (by simp [e, pu_b]), show (0 : Int32) = pu_b false from rfl, key false]
            simp [e]
theorem pa_alike {n i k : Nat} {K P : Nat → Nat} {N : Nat → List Nat} {pa re si lt : Nat → Int32} (hn : n ≤ 24) (h5 : ∀ k, k < n → P k ≤ k) (h6 : ∀ k, k < n → K k ≤ 6) (hN : ∀ k, k < n → pu_ok (N k)) (hp : ∀ k, k < n → pa k = pu_r (P k)) (hr : ∀ k, k < n → re k = nI (if K k < 4 then K k else 4)) (hs : ∀ k, k < n → si k = nI (N k).length) (hl : ∀ k, k < n → ∀ i, i < (N k).length → lt (6 * k + i) = nI ((N k).getD i 0)) (hi : i < n) (hk : k < n) :
    fn_M_alike pa re si lt (nI i) (nI k) = some (pu_b (decide (K i < 4 ∧ K k < 4 ∧ pa_c P N (i + 1) = pa_c P N (k + 1)))) := by
  have lp : ∀ sm : Bool, fl_M_alike_32 pa re si lt 4000 (pu_b sm, nI i, nI k) = some (pu_b (sm && decide (pa_c P N (i + 1) = pa_c P N (k + 1)))) := by
    intro sm
    rw [← pu_rs i, ← pu_rs k]
    exact pa_refLoop hn h5 hN hp hs hl 24 (i + 1) (k + 1) 4000 sm (by omega) (by omega) (by omega) (by omega)
  have re4 : ∀ j, j < n → ((4 : Int32) ≤ re j ↔ ¬ K j < 4) := by
    intro j hj
    rw [hr j hj]
    by_cases e : K j < 4
    · rw [if_pos e]
      exact ⟨fun q => absurd q (nI_ge (b := 4) e (by decide)), fun q => absurd e q⟩
    · rw [if_neg e]
      exact ⟨fun _ => e, fun _ => nI_le (Nat.le_refl 4) (by decide)⟩
  unfold fn_M_alike
  rw [jv_gp (pu_g (by omega) (by decide)), nI_clamp (by omega)]
  by_cases e1 : K i < 4
  · rw [if_neg (fun q => (re4 i hi).mp q e1), jv_gp (pu_g (by omega) (by decide)), nI_clamp (by omega)]
    by_cases e2 : K k < 4
    · rw [if_neg (fun q => (re4 k hk).mp q e2), show (1 : Int32) = pu_b true from rfl, lp true]
      simp [e1, e2]
    · rw [if_pos ((re4 k hk).mpr e2), show (0 : Int32) = pu_b false from rfl, lp false]
      simp [e2]
  · rw [if_pos ((re4 i hi).mpr e1), show (0 : Int32) = pu_b false from rfl, lp false]
    simp [e1]
