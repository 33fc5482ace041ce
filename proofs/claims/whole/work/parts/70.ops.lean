/-! Pure rows: nodes added and closed, in the class and in the reference. -/
theorem px_full {n K6 O : Nat} {ct lo oc : Int32} {kd dp su : Nat → Int32} {nm : Nat → Int64} {x : Int64} (hk : K6 ≤ 6) (hO : O ≤ 3) (hn : n ≤ 24) (hct : ct = nI n) (hoc : oc = nI O) (h : n = 24 ∨ (K6 = 6 ∧ O = 3)) : fn_R_addNode ct lo oc kd dp su nm (nI K6) x = some (-2, ct, lo, oc, kd, dp, su, nm) := by
  unfold fn_R_addNode
  rw [hct, hoc]
  by_cases e : n = 24
  · rw [if_pos (by rw [e]; exact nI_le (Nat.le_refl 24) (by decide))]
  · have e2 : K6 = 6 ∧ O = 3 := by omega
    rw [if_neg (show ¬ (24 : Int32) ≤ nI n from nI_ge (b := 24) (by omega) (by decide)), if_pos (by rw [e2.1]; rfl), if_neg (by rw [e2.2]; decide)]
theorem px_add {n k : Nat} {K D P : Nat → Nat} {N : Nat → List Nat} {L O : Nat} {ct lo oc : Int32} {kd dp su : Nat → Int32} {nm : Nat → Int64} {l : List Nat} (h : rc_ n K D P N L O ct lo oc kd dp su nm) (hn : n < 24) (hO : O ≤ 3) (hk : k < 4 ∨ (k = 6 ∧ O < 3)) :
    ∃ (c' l' o' : Int32) (kd' dp' su' : Nat → Int32) (nm' : Nat → Int64), fn_R_addNode ct lo oc kd dp su nm (nI k) (lN (pu_k l)) = some (nI n, c', l', o', kd', dp', su', nm') ∧
      rc_ (n + 1) (pq_up K n k) (pq_up D n O) (pq_up P n L) (pq_up N n l) (if k = 6 then n + 1 else L) (if k = 6 then O + 1 else O) c' l' o' kd' dp' su' nm' := by
  obtain ⟨hct, hlo, hoc, h1, h2, h3, h4⟩ := h
  have g1 : jv_ig (nI n) 24 = true := pu_g hn (by decide)
  have e26 : fn_R_addNode ct lo oc kd dp su nm (nI k) (lN (pu_k l)) = fb_R_addNode_26 ct lo oc kd dp su nm (nI k) (lN (pu_k l)) := by
    unfold fn_R_addNode
    rw [hct, if_neg (show ¬ (24 : Int32) ≤ nI n from nI_ge (b := 24) (by omega) (by decide))]
    by_cases e : k = 6
    · rw [if_pos (by rw [e]; rfl), hoc, if_pos (show nI O < 3 from nI_lt (b := 3) (by omega) (by decide))]
    · rw [if_neg (show ¬ nI k = 6 from fun q => e ((nI_eq (b := 6) (by omega) (by omega)).mp q))]
  have a1 : ∀ q, q < n + 1 → upd kd n (nI k) q = nI (pq_up K n k q) := by
    intro q hq
    by_cases e : q = n
    · rw [e, pk_us, pq_us]
    · rw [pk_un e, pq_un e]; exact h1 q (by omega)
  have a2 : ∀ q, q < n + 1 → upd dp n oc q = nI (pq_up D n O q) := by
    intro q hq
    by_cases e : q = n
    · rw [e, pk_us, pq_us]; exact hoc
    · rw [pk_un e, pq_un e]; exact h2 q (by omega)
  have a3 : ∀ q, q < n + 1 → upd su n lo q = pu_r (pq_up P n L q) := by
    intro q hq
    by_cases e : q = n
    · rw [e, pk_us, pq_us]; exact hlo
    · rw [pk_un e, pq_un e]; exact h3 q (by omega)
  have a4 : ∀ q, q < n + 1 → vp_updL nm n (lN (pu_k l)) q = lN (pu_k (pq_up N n l q)) := by
    intro q hq
    by_cases e : q = n
    · rw [e, pk_uLs, pq_us]
    · rw [pk_uLn e, pq_un e]; exact h4 q (by omega)
  have eb : fb_R_addNode_26 ct lo oc kd dp su nm (nI k) (lN (pu_k l)) = (if nI k = 6 then some (nI n, nI (n + 1), nI n, oc + 1, upd kd n (nI k), upd dp n oc, upd su n lo, vp_updL nm n (lN (pu_k l))) else some (nI n, nI (n + 1), lo, oc, upd kd n (nI k), upd dp n oc, upd su n lo, vp_updL nm n (lN (pu_k l)))) := by
    unfold fb_R_addNode_26
    rw [hct, jv_gp g1, jv_gp g1, jv_gp g1, jv_gp g1, nI_clamp (by omega), nI_1]
  rw [e26, eb]
  by_cases e : k = 6
  · rw [if_pos (show nI k = 6 by rw [e]; rfl), if_pos e, if_pos e]
    exact ⟨_, _, _, _, _, _, _, rfl, rfl, (pu_rs n).symm, by rw [hoc]; exact nI_1 O, a1, a2, a3, a4⟩
  · rw [if_neg (show ¬ nI k = 6 from fun q => e ((nI_eq (b := 6) (by omega) (by omega)).mp q)), if_neg e, if_neg e]
    exact ⟨_, _, _, _, _, _, _, rfl, rfl, hlo, hoc, a1, a2, a3, a4⟩
theorem px_ref {g n k w : Nat} {K P : Nat → Nat} {N : Nat → List Nat} {L : Nat} {cu pa re cl si lt : Nat → Int32} {l : List Nat} (h : rm_ g n K P N cu pa re cl si lt) (hg : g ≤ 1) (hn : n < 24) (hk : (k < 4 ∧ w = k) ∨ (k = 6 ∧ w = 4)) (hl : pu_ok l) (hN : ∀ k, k < n → (N k).length ≤ 6) :
    rm_ g (n + 1) (pq_up K n k) (pq_up P n L) (pq_up N n l) (upd cu g (nI (n + 1))) (upd pa (24 * g + n) (pu_r L)) (upd re (24 * g + n) (nI w)) (upd cl (24 * g + n) 0) (upd (upd si (24 * g + n) 0) (24 * g + n) (nI l.length)) (pv_t lt (6 * (24 * g + n)) l) := by
  obtain ⟨h1, h2, h3, h4, h5, h6⟩ := h
  have hl6 := hl.1
  refine ⟨pk_us, fun q hq => ?_, fun q hq => ?_, fun q hq => ?_, fun q hq => ?_, fun q hq i hi => ?_⟩
  · by_cases e : q = n
    · rw [e, pk_us, pq_us]
    · rw [pk_un (by omega), pq_un e]; exact h2 q (by omega)
  · by_cases e : q = n
    · rw [e, pk_us, pq_us]
      congr 1
      rcases hk with ⟨a, b⟩ | ⟨a, b⟩
      · rw [if_pos a]; exact b
      · rw [if_neg (by omega)]; exact b
    · rw [pk_un (by omega), pq_un e]; exact h3 q (by omega)
  · by_cases e : q = n
    · rw [e, pk_us, pq_us]
      have : decide (k = 4 ∨ k = 5) = false := by
        rcases hk with ⟨a, b⟩ | ⟨a, b⟩ <;> simp <;> omega
      rw [this]
      rfl
    · rw [pk_un (by omega), pq_un e]; exact h4 q (by omega)
  · by_cases e : q = n
    · rw [e, pk_us, pq_us]
    · rw [pk_un (by omega), pk_un (by omega), pq_un e]; exact h5 q (by omega)
  · by_cases e : q = n
    · rw [e, pq_us] at hi ⊢
      exact pv_t_in hi
    · rw [pq_un e] at hi ⊢
      have := hN q (by omega)
      rw [pv_t_out (by omega)]
      exact h6 q (by omega) i hi
theorem px_failed {n i : Nat} {K : Nat → Nat} {kd : Nat → Int32} {b : Bool} (hn : n ≤ 24) (h6 : ∀ k, k < n → K k ≤ 6) (hk : ∀ k, k < n → kd k = nI (K k)) (hi : i < n) (hb : b = true ↔ ∃ j, i < j ∧ j < n ∧ K j = 1) : fn_R_hasFailedBehind (nI n) kd (nI i) = some (pu_b b) := by
  have lp : ∀ (d j N : Nat), j + d = n → d < N → i < j → (∀ q, i < q → q < j → K q ≠ 1) → fl_R_hasFailedBehind_4 (nI n) kd N (nI j) = some (pu_b b) := by
    intro d
    induction d with
    | zero =>
      intro j N hj hN hij hq
      cases N with
      | zero => omega
      | succ N =>
        rw [fs_R_hasFailedBehind_4]
        unfold fb_R_hasFailedBehind_4
        rw [if_pos (nI_le (by omega) (by omega))]
        have : b = false := by
          cases b with
          | false => rfl
          | true =>
            obtain ⟨q, q1, q2, q3⟩ := hb.mp rfl
            exact absurd q3 (hq q q1 (by omega))
        rw [this]
        rfl
    | succ d ih =>
      intro j N hj hN hij hq
      cases N with
      | zero => omega
      | succ N =>
        rw [fs_R_hasFailedBehind_4]
        unfold fb_R_hasFailedBehind_4
        have h6j := h6 j (by omega)
        rw [if_neg (nI_ge (by omega) (by omega)), jv_gp (pu_g (by omega) (by decide)), nI_clamp (by omega), hk j (by omega), nI_1]
        by_cases e : K j = 1
        · rw [if_pos (by rw [e]; rfl), hb.mpr ⟨j, hij, by omega, e⟩]
          rfl
        · rw [if_neg (show ¬ nI (K j) = 1 from fun q => e ((nI_eq (b := 1) (by omega) (by omega)).mp q))]
          exact ih (j + 1) N (by omega) (by omega) (by omega) (fun q q1 q2 => by
            by_cases eq : q = j
            · rw [eq]; exact e
            · exact hq q q1 (by omega))
  unfold fn_R_hasFailedBehind
  rw [nI_1]
  exact lp (n - (i + 1)) (i + 1) 4000 (by omega) (by omega) (by omega) (fun q q1 q2 => by omega)
theorem px_closeNo {n : Nat} {K D P : Nat → Nat} {N : Nat → List Nat} {O : Nat} {ct lo oc : Int32} {kd dp su : Nat → Int32} {nm : Nat → Int64} (h : rc_ n K D P N 0 O ct lo oc kd dp su nm) : fn_R_closeLastOpen ct su lo oc kd = some (0, lo, oc, kd) := by
  obtain ⟨hct, hlo, hoc, h1, h2, h3, h4⟩ := h
  unfold fn_R_closeLastOpen
  rw [hct, hlo, pc_has0, Option.bind_some, if_pos rfl]
theorem px_close {n i : Nat} {K D P : Nat → Nat} {N : Nat → List Nat} {O : Nat} {ct lo oc : Int32} {kd dp su : Nat → Int32} {nm : Nat → Int64} (h : rc_ n K D P N (i + 1) O ct lo oc kd dp su nm) (hv : iv_ n K D P N (i + 1) O) :
    ∃ (k : Nat) (l' o' : Int32) (kd' : Nat → Int32), ((k = 5 ∧ ∃ j, i < j ∧ j < n ∧ K j = 1) ∨ (k = 4 ∧ ∀ j, i < j → j < n → K j ≠ 1)) ∧ fn_R_closeLastOpen ct su lo oc kd = some (1, l', o', kd') ∧ rc_ n (pq_up K i k) D P N (P i) (O - 1) ct l' o' kd' dp su nm := by
  obtain ⟨hct, hlo, hoc, h1, h2, h3, h4⟩ := h
  obtain ⟨⟨v1, v2, v3⟩, ⟨v4, v5, v6⟩, v7, v8, ⟨v11, v12⟩, v13⟩ := hv
  obtain ⟨hi6, hiO⟩ := v12 i rfl
  have hin : i < n := by omega
  have g1 : jv_ig (nI i) 24 = true := pu_g (by omega) (by decide)
  obtain ⟨b, hb⟩ : ∃ b : Bool, b = true ↔ ∃ j, i < j ∧ j < n ∧ K j = 1 := ⟨pq_d _, pq_d_iff _⟩
  have eo : nI O - 1 = nI (O - 1) := by
    rw [show O = (O - 1) + 1 by omega, nI_pred]
    rfl
  have key : ∀ k, fb_R_closeLastOpen_37 ct su lo oc kd lo (nI k) = some (1, pu_r (P i), nI (O - 1), upd kd i (nI k)) ∧ rc_ n (pq_up K i k) D P N (P i) (O - 1) ct (pu_r (P i)) (nI (O - 1)) (upd kd i (nI k)) dp su nm := by
    intro k
    constructor
    · unfold fb_R_closeLastOpen_37
      rw [hlo, pu_rs, jv_gp g1, jv_gp g1, nI_clamp (by omega), h3 i hin, hoc, eo]
    · refine ⟨hct, rfl, rfl, fun q hq => ?_, h2, h3, h4⟩
      by_cases e : q = i
      · rw [e, pk_us, pq_us]
      · rw [pk_un e, pq_un e]; exact h1 q hq
  have e1 : fn_R_closeLastOpen ct su lo oc kd = (if pu_b b = 0 then fb_R_closeLastOpen_37 ct su lo oc kd lo 4 else fb_R_closeLastOpen_37 ct su lo oc kd lo 5) := by
    unfold fn_R_closeLastOpen
    rw [hct, hlo, pu_rs, pc_hasIn v1 hin, Option.bind_some, if_neg (by decide), px_failed v1 v4 h1 hin hb, Option.bind_some]
  rw [e1]
  cases b with
  | true =>
    rw [if_neg (by decide)]
    exact ⟨5, _, _, _, Or.inl ⟨rfl, hb.mp rfl⟩, (key 5).1, (key 5).2⟩
  | false =>
    rw [if_pos (by decide)]
    exact ⟨4, _, _, _, Or.inr ⟨rfl, fun j j1 j2 j3 => by have := hb.mpr ⟨j, j1, j2, j3⟩; cases this⟩, (key 4).1, (key 4).2⟩
theorem px_refClose {n i k : Nat} {K P : Nat → Nat} {N : Nat → List Nat} {g : Nat} {cu pa re cl si lt : Nat → Int32} (h : rm_ g n K P N cu pa re cl si lt) (hi : i < n) (h4i : 4 ≤ K i) (hk : k = 4 ∨ k = 5) : rm_ g n (pq_up K i k) P N cu pa re (upd cl (24 * g + i) 1) si lt := by
  obtain ⟨h1, h2, h3, h4, h5, h6⟩ := h
  refine ⟨h1, h2, fun q hq => ?_, fun q hq => ?_, h5, h6⟩
  · by_cases e : q = i
    · rw [e, pq_us, h3 i hi, if_neg (by omega), if_neg (by omega)]
    · rw [pq_un e]; exact h3 q hq
  · by_cases e : q = i
    · rw [e, pk_us, pq_us]
      have : decide (k = 4 ∨ k = 5) = true := by simp [hk]
      rw [this]
      rfl
    · rw [pk_un (by omega), pq_un e]; exact h4 q hq
