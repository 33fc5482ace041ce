/-! Pure rows: attempts and flaky on both sides. -/
section Att
variable {bn : Int64} {zp : Int32} {ch : Nat → Int32} {ct lo oc : Int32} {kd dp su : Nat → Int32} {nm : Nat → Int64} {bg ln : Int32} {na cu pa re cl si lt pg : Nat → Int32}
theorem sa_no {n : Nat} {x y : Int32} (h : x < 0 ∨ nI n ≤ x) : fn_R_areAttempts (nI n) kd dp su nm x y = some 0 := by
  unfold fn_R_areAttempts
  rw [pc_testNo h, Option.bind_some, if_pos rfl]
theorem st_attempts (h : st_ bn zp ch ct lo oc kd dp su nm bg ln na cu pa re cl si lt pg) (x : Int32) : ∃ o, fn_V_attempts ct kd dp su nm x = some o ∧ fn_M_attempts cu pa re si lt x = some o := by
  obtain ⟨n, K, D, P, N, L, O, B, T, hv, hc, hm, hb, hp⟩ := h
  obtain ⟨c1, c2, c3, c4, c5, c6, c7⟩ := hc
  have hn := iv_n hv
  have out : (x < 0 ∨ nI n ≤ x) → ∃ o, fn_V_attempts ct kd dp su nm x = some o ∧ fn_M_attempts cu pa re si lt x = some o := by
    intro q
    refine ⟨-1, ?_, ?_⟩
    · unfold fn_V_attempts
      rw [c1, pc_testNo q, Option.bind_some, if_pos rfl]
    · unfold fn_M_attempts
      rw [pm_nodeNo hm.1 q, Option.bind_some, if_pos rfl]
  rcases pk_ix x (n := n) (by omega) with q | q | ⟨j, hj, rfl⟩
  · exact out (Or.inl q)
  · exact out (Or.inr q)
  · have m1 := hm.2.1
    have m2 := hm.2.2.1
    have m3 := hm.2.2.2.2.1
    have m4 := hm.2.2.2.2.2
    simp only [Nat.mul_zero, Nat.zero_add] at m1 m2 m3 m4
    have h6 := iv_6 hv j hj
    unfold fn_V_attempts fn_M_attempts
    rw [c1, pc_testIn hn hj h6 c4, Option.bind_some, pm_nodeIn hn hm.1 hj, Option.bind_some, if_neg (show ¬ (1 : Int32) = 0 by decide), jv_gp (pu_g (by omega) (by decide)), nI_clamp (by omega), m2 j hj]
    by_cases e : K j < 4
    · rw [if_pos e, if_neg (show ¬ (1 : Int32) = 0 by decide), if_pos e, if_neg (show ¬ nI (K j) = 4 from fun q => by have := (nI_eq (b := 4) (by omega) (by omega)).mp q; omega)]
      refine ⟨nI (pu_c (fun k => decide (K j < 4 ∧ K k < 4 ∧ pa_c P N (j + 1) = pa_c P N (k + 1))) n), ?_, ?_⟩
      · unfold fl_V_attempts_17
        refine pu_lp _ (fun i => (nI j, nI (pu_c (fun k => decide (K j < 4 ∧ K k < 4 ∧ pa_c P N (j + 1) = pa_c P N (k + 1))) i), nI i)) n _ (fun i hi k => ?_) (fun k => ?_) n 0 4000 (by omega) (by omega)
        · show fb_V_attempts_17 (nI n) kd dp su nm k (nI j) (nI (pu_c (fun k => decide (K j < 4 ∧ K k < 4 ∧ pa_c P N (j + 1) = pa_c P N (k + 1))) i)) (nI i) = k (nI j, nI (pu_c (fun k => decide (K j < 4 ∧ K k < 4 ∧ pa_c P N (j + 1) = pa_c P N (k + 1))) i + (if decide (K j < 4 ∧ K i < 4 ∧ pa_c P N (j + 1) = pa_c P N (i + 1)) = true then 1 else 0)), nI (i + 1))
          unfold fb_V_attempts_17 fn_R_size
          rw [Option.bind_some, if_neg (nI_ge hi (by omega)), pa_attIn hn (iv_5 hv) (iv_6 hv) (iv_9 hv) (iv_N hv) (iv_D hv) c4 c5 c6 c7 hj hi, Option.bind_some, nI_1, nI_1]
          cases decide (K j < 4 ∧ K i < 4 ∧ pa_c P N (j + 1) = pa_c P N (i + 1)) with
          | true => rw [if_neg (by decide), if_pos rfl]
          | false =>
            rw [if_pos (by decide), if_neg (by decide)]
            rfl
        · show fb_V_attempts_17 (nI n) kd dp su nm k (nI j) (nI (pu_c (fun k => decide (K j < 4 ∧ K k < 4 ∧ pa_c P N (j + 1) = pa_c P N (k + 1))) n)) (nI n) = _
          unfold fb_V_attempts_17 fn_R_size
          rw [Option.bind_some, if_pos (nI_le (Nat.le_refl n) (by omega))]
      · have ext : pu_c (fun k => decide (K j < 4 ∧ K k < 4 ∧ pa_c P N (j + 1) = pa_c P N (k + 1))) n = pu_c (fun k => decide (K k < 4 ∧ K j < 4 ∧ pa_c P N (k + 1) = pa_c P N (j + 1))) n := pu_c_ext (fun k _ => by
          rw [decide_eq_decide]
          exact ⟨fun ⟨a, b, c⟩ => ⟨b, a, c.symm⟩, fun ⟨a, b, c⟩ => ⟨b, a, c.symm⟩⟩)
        rw [ext]
        unfold fl_M_attempts_24
        refine pu_lp _ (fun i => (nI j, nI (pu_c (fun k => decide (K k < 4 ∧ K j < 4 ∧ pa_c P N (k + 1) = pa_c P N (j + 1))) i), nI i)) n _ (fun i hi k => ?_) (fun k => ?_) n 0 4000 (by omega) (by omega)
        · show fb_M_attempts_24 cu pa re si lt k (nI j) (nI (pu_c (fun k => decide (K k < 4 ∧ K j < 4 ∧ pa_c P N (k + 1) = pa_c P N (j + 1))) i)) (nI i) = k (nI j, nI (pu_c (fun k => decide (K k < 4 ∧ K j < 4 ∧ pa_c P N (k + 1) = pa_c P N (j + 1))) i + (if decide (K i < 4 ∧ K j < 4 ∧ pa_c P N (i + 1) = pa_c P N (j + 1)) = true then 1 else 0)), nI (i + 1))
          unfold fb_M_attempts_24
          rw [jv_gp (by decide), c0_, hm.1, if_neg (nI_ge hi (by omega)), pa_alike hn (iv_5 hv) (iv_6 hv) (iv_N hv) m1 m2 m3 m4 hi hj, Option.bind_some, nI_1, nI_1, show (0 : Int32) = nI 0 from rfl, nI_add]
          cases decide (K i < 4 ∧ K j < 4 ∧ pa_c P N (i + 1) = pa_c P N (j + 1)) with
          | true => rw [if_neg (by decide), if_pos rfl]
          | false => rw [if_pos (by decide), if_neg (by decide)]
        · show fb_M_attempts_24 cu pa re si lt k (nI j) (nI (pu_c (fun k => decide (K k < 4 ∧ K j < 4 ∧ pa_c P N (k + 1) = pa_c P N (j + 1))) n)) (nI n) = _
          unfold fb_M_attempts_24
          rw [jv_gp (by decide), c0_, hm.1, if_pos (nI_le (Nat.le_refl n) (by omega))]
    · rw [if_neg e, if_pos rfl, if_neg e, if_pos (show nI 4 = 4 from rfl)]
      exact ⟨-1, rfl, rfl⟩
theorem st_flaky (h : st_ bn zp ch ct lo oc kd dp su nm bg ln na cu pa re cl si lt pg) (x : Int32) : ∃ o, fn_V_flaky ct kd dp su nm x = some o ∧ fn_M_flaky cu pa re si lt x = some o := by
  obtain ⟨n, K, D, P, N, L, O, B, T, hv, hc, hm, hb, hp⟩ := h
  obtain ⟨c1, c2, c3, c4, c5, c6, c7⟩ := hc
  have hn := iv_n hv
  have m1 := hm.2.1
  have m2 := hm.2.2.1
  have m3 := hm.2.2.2.2.1
  have m4 := hm.2.2.2.2.2
  simp only [Nat.mul_zero, Nat.zero_add] at m1 m2 m3 m4
  have none_ : (∀ i, i < n → fn_R_areAttempts (nI n) kd dp su nm x (nI i) = some 0) → fn_V_flaky ct kd dp su nm x = some 0 := by
    intro hq
    unfold fn_V_flaky fl_V_flaky_4
    rw [c1]
    refine pu_lp _ (fun i => (x, 0, nI i)) n _ (fun i hi k => ?_) (fun k => ?_) n 0 4000 (by omega) (by omega)
    · show fb_V_flaky_4 (nI n) kd dp su nm k x 0 (nI i) = k (x, 0, nI (i + 1))
      unfold fb_V_flaky_4 fn_R_size
      rw [Option.bind_some, if_neg (nI_ge hi (by omega)), hq i hi, Option.bind_some, if_pos rfl, nI_1]
    · show fb_V_flaky_4 (nI n) kd dp su nm k x 0 (nI n) = some 0
      unfold fb_V_flaky_4 fn_R_size
      rw [Option.bind_some, if_pos (nI_le (Nat.le_refl n) (by omega))]
  have out : (x < 0 ∨ nI n ≤ x) → ∃ o, fn_V_flaky ct kd dp su nm x = some o ∧ fn_M_flaky cu pa re si lt x = some o := by
    intro q
    refine ⟨0, none_ (fun i hi => sa_no q), ?_⟩
    unfold fn_M_flaky
    rw [pm_nodeNo hm.1 q, Option.bind_some, if_pos rfl]
  rcases pk_ix x (n := n) (by omega) with q | q | ⟨j, hj, rfl⟩
  · exact out (Or.inl q)
  · exact out (Or.inr q)
  · have h6 := iv_6 hv j hj
    by_cases e : K j < 4
    · obtain ⟨p, hpp⟩ : ∃ p : Nat → Bool, ∀ k, p k = decide (K j < 4 ∧ K k < 4 ∧ pa_c P N (j + 1) = pa_c P N (k + 1)) := ⟨_, fun _ => rfl⟩
      obtain ⟨fa, hfa⟩ : ∃ fa : Nat → Bool, ∀ i, fa i = pu_a (fun k => p k && decide (K k = 1)) i := ⟨_, fun _ => rfl⟩
      obtain ⟨fo, hfo⟩ : ∃ fo : Nat → Bool, ∀ i, fo i = pu_a (fun k => p k && fa k && decide (K k = 0)) i := ⟨_, fun _ => rfl⟩
      have fa0 : fa 0 = false := hfa 0
      have fo0 : fo 0 = false := hfo 0
      have fas : ∀ i, fa (i + 1) = (fa i || (p i && decide (K i = 1))) := fun i => by rw [hfa, hfa]; rfl
      have fos : ∀ i, fo (i + 1) = (fo i || (p i && fa i && decide (K i = 0))) := fun i => by rw [hfo, hfo]; rfl
      have mono : ∀ d i, fo i = true → fo (i + d) = true := by
        intro d
        induction d with
        | zero => exact fun i q => q
        | succ d ih =>
          intro i q
          rw [← Nat.add_assoc, fos, ih i q]
          rfl
      have cls : ∀ (d i F : Nat), i + d = n → d < F → fo i = false → fl_V_flaky_4 (nI n) kd dp su nm F (nI j, pu_b (fa i), nI i) = some (pu_b (fo n)) := by
        intro d
        induction d with
        | zero =>
          intro i F hi hF hf
          cases F with
          | zero => omega
          | succ F =>
            have ei : i = n := by omega
            rw [fs_V_flaky_4]
            unfold fb_V_flaky_4 fn_R_size
            rw [Option.bind_some, if_pos (nI_le (by omega) (by omega)), ← ei, hf]
            rfl
        | succ d ih =>
          intro i F hi hF hf
          cases F with
          | zero => omega
          | succ F =>
            have h6i := iv_6 hv i (by omega)
            have nxt : fo (i + 1) = false → fl_V_flaky_4 (nI n) kd dp su nm F (nI j, pu_b (fa (i + 1)), nI (i + 1)) = some (pu_b (fo n)) := fun q => ih (i + 1) F (by omega) (by omega) q
            rw [fs_V_flaky_4]
            unfold fb_V_flaky_4 fn_R_size
            rw [Option.bind_some, if_neg (nI_ge (by omega) (by omega)), pa_attIn hn (iv_5 hv) (iv_6 hv) (iv_9 hv) (iv_N hv) (iv_D hv) c4 c5 c6 c7 hj (show i < n by omega), ← hpp i, Option.bind_some, nI_1, pc_kindIn hn (by omega) c4, Option.bind_some]
            have a1 := fas i
            have a2 := fos i
            rw [hf] at a2
            cases ep : p i with
            | false =>
              rw [ep] at a1 a2
              simp at a1 a2
              rw [if_pos (show pu_b false = 0 by decide), ← a1]
              exact nxt a2
            | true =>
              rw [if_neg (show ¬ pu_b true = 0 by decide)]
              rw [ep] at a1 a2
              cases ef : fa i with
              | false =>
                rw [ef] at a1 a2
                simp at a1 a2
                rw [if_pos (show pu_b false = 0 by decide)]
                unfold fb_V_flaky_48
                rw [if_pos (show pu_b false = 0 by decide), nI_1]
                by_cases e1 : K i = 1
                · rw [if_pos (show nI (K i) = 1 by rw [e1]; rfl)]
                  have : fa (i + 1) = true := by rw [a1]; simp [e1]
                  have z := nxt a2
                  rw [this] at z
                  exact z
                · rw [if_neg (show ¬ nI (K i) = 1 from fun q => e1 ((nI_eq (b := 1) (by omega) (by omega)).mp q))]
                  have : fa (i + 1) = false := by rw [a1]; simp [e1]
                  have z := nxt a2
                  rw [this] at z
                  exact z
              | true =>
                rw [ef] at a1 a2
                simp at a1 a2
                rw [if_neg (show ¬ pu_b true = 0 by decide)]
                by_cases e0 : K i = 0
                · rw [if_pos (show nI (K i) = 0 by rw [e0]; rfl)]
                  have : fo (i + 1) = true := by rw [a2]; simp [e0]
                  have z := mono d (i + 1) this
                  rw [show i + 1 + d = n by omega] at z
                  rw [z]
                  rfl
                · rw [if_neg (show ¬ nI (K i) = 0 from fun q => e0 ((nI_eq (b := 0) (by omega) (by omega)).mp q))]
                  unfold fb_V_flaky_48
                  rw [if_neg (show ¬ pu_b true = 0 by decide), nI_1]
                  have z := nxt (by rw [a2]; simp [e0])
                  rw [a1] at z
                  exact z
      refine ⟨pu_b (fo n), ?_, ?_⟩
      · unfold fn_V_flaky
        rw [c1]
        have z := cls n 0 4000 (by omega) (by omega) fo0
        rw [fa0] at z
        exact z
      · unfold fn_M_flaky
        rw [pm_nodeIn hn hm.1 hj, Option.bind_some, if_neg (show ¬ (1 : Int32) = 0 by decide), jv_gp (pu_g (by omega) (by decide)), nI_clamp (by omega), m2 j hj, if_pos e, if_neg (show ¬ nI (K j) = 4 from fun q => by have := (nI_eq (b := 4) (by omega) (by omega)).mp q; omega)]
        have e0 : (nI j, (0 : Int32), (0 : Int32), (0 : Int32)) = (nI j, pu_b (fa 0), pu_b (fo 0), nI 0) := by rw [fa0, fo0]; rfl
        rw [e0]
        unfold fl_M_flaky_27
        refine pu_lp _ (fun i => (nI j, pu_b (fa i), pu_b (fo i), nI i)) n _ (fun i hi k => ?_) (fun k => ?_) n 0 4000 (by omega) (by omega)
        · show fb_M_flaky_27 cu pa re si lt k (nI j) (pu_b (fa i)) (pu_b (fo i)) (nI i) = k (nI j, pu_b (fa (i + 1)), pu_b (fo (i + 1)), nI (i + 1))
          have h6i := iv_6 hv i hi
          have ea : decide (K i < 4 ∧ K j < 4 ∧ pa_c P N (i + 1) = pa_c P N (j + 1)) = p i := by
            rw [hpp, decide_eq_decide]
            exact ⟨fun ⟨a, b, c⟩ => ⟨b, a, c.symm⟩, fun ⟨a, b, c⟩ => ⟨b, a, c.symm⟩⟩
          have h4 : p i = true → K i < 4 := fun q => by rw [hpp] at q; exact (of_decide_eq_true q).2.1
          have key : ∀ y : Bool, fb_M_flaky_75 cu pa re si lt k (nI j) (pu_b (fa i)) (nI i) (pu_b (p i)) (pu_b y) = k (nI j, pu_b (fa (i + 1)), pu_b y, nI (i + 1)) := by
            intro y
            unfold fb_M_flaky_75
            rw [fas i, nI_1]
            cases ef : fa i with
            | true =>
              rw [if_neg (show ¬ pu_b true = 0 by decide), Bool.true_or]
              rfl
            | false =>
              rw [if_pos (show pu_b false = 0 by decide), Bool.false_or]
              cases ep : p i with
              | false =>
                rw [if_pos (show pu_b false = 0 by decide), Bool.false_and]
                rfl
              | true =>
                have := h4 ep
                rw [if_neg (show ¬ pu_b true = 0 by decide), Bool.true_and, jv_gp (pu_g (by omega) (by decide)), nI_clamp (by omega), m2 i hi, if_pos this]
                by_cases e1 : K i = 1
                · rw [if_pos (show nI (K i) = 1 by rw [e1]; rfl)]
                  simp [e1, pu_b]
                · rw [if_neg (show ¬ nI (K i) = 1 from fun q => e1 ((nI_eq (b := 1) (by omega) (by omega)).mp q))]
                  simp [e1, pu_b]
          unfold fb_M_flaky_27
          rw [jv_gp (by decide), c0_, hm.1, if_neg (nI_ge hi (by omega)), pa_alike hn (iv_5 hv) (iv_6 hv) (iv_N hv) m1 m2 m3 m4 hi hj, Option.bind_some, ea, show (1 : Int32) = pu_b true from rfl, fos i]
          cases efo : fo i with
          | true =>
            rw [if_neg (show ¬ pu_b true = 0 by decide), key true, Bool.true_or]
          | false =>
            rw [if_pos (show pu_b false = 0 by decide), Bool.false_or]
            cases ep : p i with
            | false =>
              have z := key false
              rw [ep] at z
              rw [if_pos (show pu_b false = 0 by decide), Bool.false_and, Bool.false_and]
              exact z
            | true =>
              have hk4 := h4 ep
              have zt := key true
              have zf := key false
              rw [ep] at zt zf
              rw [if_neg (show ¬ pu_b true = 0 by decide), Bool.true_and]
              cases ef : fa i with
              | false =>
                rw [ef] at zf
                rw [if_pos (show pu_b false = 0 by decide), Bool.false_and]
                exact zf
              | true =>
                rw [ef] at zf zt
                rw [if_neg (show ¬ pu_b true = 0 by decide), Bool.true_and, jv_gp (pu_g (by omega) (by decide)), nI_clamp (by omega), m2 i hi, if_pos hk4]
                by_cases e0 : K i = 0
                · rw [if_pos (show nI (K i) = 0 by rw [e0]; rfl), show decide (K i = 0) = true by simp [e0]]
                  exact zt
                · rw [if_neg (show ¬ nI (K i) = 0 from fun q => e0 ((nI_eq (b := 0) (by omega) (by omega)).mp q)), show decide (K i = 0) = false by simp [e0]]
                  exact zf
        · show fb_M_flaky_27 cu pa re si lt k (nI j) (pu_b (fa n)) (pu_b (fo n)) (nI n) = _
          unfold fb_M_flaky_27
          rw [jv_gp (by decide), c0_, hm.1, if_pos (nI_le (Nat.le_refl n) (by omega)), jv_gp (pu_bz _)]
    · refine ⟨0, none_ (fun i hi => ?_), ?_⟩
      · rw [pa_attIn hn (iv_5 hv) (iv_6 hv) (iv_9 hv) (iv_N hv) (iv_D hv) c4 c5 c6 c7 hj hi]
        simp [e, pu_b]
      · unfold fn_M_flaky
        rw [pm_nodeIn hn hm.1 hj, Option.bind_some, if_neg (show ¬ (1 : Int32) = 0 by decide), jv_gp (pu_g (by omega) (by decide)), nI_clamp (by omega), m2 j hj, if_neg e, if_pos (show nI 4 = 4 from rfl)]
end Att
