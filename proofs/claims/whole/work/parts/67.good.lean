/-! Pure rows: good suites, names alike, attempts, on the reference's side. -/
theorem pm_goodIn {g n s k : Nat} {K P : Nat → Nat} {cu pa re : Nat → Int32} {k7 : Int32 × Int32 × Int32 × Int32 → Option Int32} {all : Bool} (hg : g ≤ 1) (hn : n ≤ 24) (hs : s < n) (hk : k < n) (h6 : K k ≤ 6) (h5 : ∀ k, k < n → P k ≤ k) (hp : ∀ k, k < n → pa (24 * g + k) = pu_r (P k)) (hr : re (24 * g + k) = nI (if K k < 4 then K k else 4)) :
    ∀ (m r N : Nat) (inn b : Bool), r ≤ m → r ≤ n → m < N → (b = true ↔ ¬ ((inn = true ∨ pq_on P r (s + 1)) ∧ K k = 1)) → fl_M_good_35 cu pa re k7 N (nI g, nI s, pu_b all, nI k, pu_b inn, pu_r r) = k7 (nI g, nI s, pu_b (all && b), nI (k + 1)) := by
  have fin : ∀ (N : Nat) (inn b : Bool), (b = true ↔ ¬ (inn = true ∧ K k = 1)) → fb_M_good_35 cu pa re k7 (fl_M_good_35 cu pa re k7 N) (nI g) (nI s) (pu_b all) (nI k) (pu_b inn) (pu_r 0) = k7 (nI g, nI s, pu_b (all && b), nI (k + 1)) := by
    intro N inn b hb
    unfold fb_M_good_35
    rw [if_pos (by rw [pu_r0]; decide), nI_1]
    have b1 : pu_b true = 1 := by decide
    have b0 : pu_b false = 0 := by decide
    cases all with
    | false => rw [if_pos b0, Bool.false_and, b0]
    | true =>
      rw [if_neg (show ¬ pu_b true = 0 by decide)]
      cases inn with
      | false =>
        have e : b = true := hb.mpr (fun q => by cases q.1)
        rw [if_pos b0, e, Bool.and_self, b1]
      | true =>
        rw [if_neg (show ¬ pu_b true = 0 by decide), pm_ix, jv_gp (pu_g (by omega) (by decide)), nI_clamp (by omega), hr]
        by_cases e1 : K k = 1
        · have e : b = false := by
            cases b with
            | false => rfl
            | true => exact absurd ⟨rfl, e1⟩ (hb.mp rfl)
          rw [if_pos (show nI (if K k < 4 then K k else 4) = 1 by rw [e1]; decide), e, Bool.and_false, b0]
        · have e : b = true := hb.mpr (fun q => e1 q.2)
          have e2 : ¬ nI (if K k < 4 then K k else 4) = 1 := by
            intro q
            by_cases e4 : K k < 4
            · rw [if_pos e4] at q
              have := (nI_eq (a := K k) (b := 1) (by omega) (by omega)).mp q
              omega
            · rw [if_neg e4] at q
              exact absurd q (by decide)
          rw [if_neg e2, e, Bool.and_self, b1]
  intro m
  induction m with
  | zero =>
    intro r N inn b hrm hrn hN hb
    have e : r = 0 := by omega
    subst e
    cases N with
    | zero => omega
    | succ N =>
      rw [fs_M_good_35]
      refine fin N inn b ?_
      rw [hb]
      have : ¬ pq_on P 0 (s + 1) := fun q => by have := pq_le (r := 0) (fun k hk => by omega) q; omega
      simp [this]
  | succ m ih =>
    intro r N inn b hrm hrn hN hb
    cases N with
    | zero => omega
    | succ N =>
      cases r with
      | zero =>
        rw [fs_M_good_35]
        refine fin N inn b ?_
        rw [hb]
        have : ¬ pq_on P 0 (s + 1) := fun q => by have := pq_le (r := 0) (fun k hk => by omega) q; omega
        simp [this]
      | succ i =>
        have hPi := h5 i (by omega)
        have key : ∀ inn2 : Bool, (inn2 = true ↔ inn = true ∨ i = s) → fb_M_good_56 cu pa re k7 (fl_M_good_35 cu pa re k7 N) (nI g) (nI s) (pu_b all) (nI k) (nI i) (pu_b inn2) = k7 (nI g, nI s, pu_b (all && b), nI (k + 1)) := by
          intro inn2 h2
          unfold fb_M_good_56
          rw [pm_ix, jv_gp (pu_g (by omega) (by decide)), nI_clamp (by omega), hp i (by omega)]
          refine ih (P i) N inn2 b (by omega) (by omega) (by omega) ?_
          rw [hb, h2]
          have e : pq_on P (i + 1) (s + 1) ↔ i = s ∨ pq_on P (P i) (s + 1) := by
            constructor
            · intro q
              rcases pq_cases q with q | q
              · exact Or.inl (by omega)
              · exact Or.inr q
            · rintro (q | q)
              · rw [q]; exact pq_refl _ _
              · exact pq_step q
          rw [e]
          constructor
          · rintro z ⟨(z1 | z1) | z1, z2⟩
            · exact z ⟨Or.inl z1, z2⟩
            · exact z ⟨Or.inr (Or.inl z1), z2⟩
            · exact z ⟨Or.inr (Or.inr z1), z2⟩
          · rintro z ⟨z1 | z1 | z1, z2⟩
            · exact z ⟨Or.inl (Or.inl z1), z2⟩
            · exact z ⟨Or.inl (Or.inr z1), z2⟩
            · exact z ⟨Or.inr z1, z2⟩
        rw [fs_M_good_35]
        unfold fb_M_good_35
        rw [pu_rs, if_neg (nI_pos (by omega))]
        cases inn with
        | true =>
          rw [if_neg (show ¬ pu_b true = 0 by decide)]
          exact key true (by simp)
        | false =>
          rw [if_pos (show pu_b false = 0 by decide)]
          by_cases e : i = s
          · rw [if_pos (by rw [e])]
            exact key true (by simp [e])
          · rw [if_neg (fun q => e ((nI_eq (by omega) (by omega)).mp q))]
            exact key false (by simp [e])
theorem pm_good {g n s : Nat} {K P : Nat → Nat} {cu pa re : Nat → Int32} {b : Bool} (hg : g ≤ 1) (hn : n ≤ 24) (hs : s < n) (h6 : ∀ k, k < n → K k ≤ 6) (h5 : ∀ k, k < n → P k ≤ k) (hc : cu g = nI n) (hp : ∀ k, k < n → pa (24 * g + k) = pu_r (P k)) (hr : ∀ k, k < n → re (24 * g + k) = nI (if K k < 4 then K k else 4))
    (hb : b = true ↔ ∀ k, s < k → k < n → pq_on P (P k) (s + 1) → K k ≠ 1) : fn_M_good cu pa re (nI g) (nI s) = some (pu_b b) := by
  obtain ⟨q, hq⟩ : ∃ q : Nat → Bool, ∀ k, q k = true ↔ (s < k ∧ pq_on P (P k) (s + 1) ∧ K k = 1) := ⟨fun k => pq_d (s < k ∧ pq_on P (P k) (s + 1) ∧ K k = 1), fun k => pq_d_iff _⟩
  have e0 : pu_a q (s + 1) = false := by
    cases e : pu_a q (s + 1) with
    | false => rfl
    | true =>
      obtain ⟨k, h1, h2⟩ := (pu_a_iff q (s + 1)).mp e
      have := ((hq k).mp h2).1
      omega
  unfold fn_M_good fl_M_good_7
  have e1 : (nI g, nI s, (1 : Int32), nI s + 1) = (nI g, nI s, pu_b (!(pu_a q (s + 1))), nI (s + 1)) := by rw [e0, nI_1]; rfl
  rw [e1]
  refine pu_lp _ (fun i => (nI g, nI s, pu_b (!(pu_a q i)), nI i)) n _ ?_ (fun k => ?_) (n - (s + 1)) (s + 1) 4000 (by omega) (by omega)
  · intro i hi k
    show fb_M_good_7 cu pa re k (nI g) (nI s) (pu_b (!(pu_a q i))) (nI i) = k (nI g, nI s, pu_b (!(pu_a q i || q i)), nI (i + 1))
    have hPi := h5 i hi
    unfold fb_M_good_7
    rw [jv_gp (pu_g (by omega) (by decide)), nI_clamp (by omega), hc, if_neg (nI_ge hi (by omega)), pm_ix, jv_gp (pu_g (by omega) (by decide)), nI_clamp (by omega), hp i hi]
    by_cases hsi : s < i
    · have := pm_goodIn (cu := cu) (pa := pa) (re := re) (k7 := k) (all := !(pu_a q i)) hg hn hs hi (h6 i hi) h5 hp (hr i hi) 24 (P i) 4000 false (!(q i)) (by omega) (by omega) (by omega) (by
        have := hq i
        cases e : q i with
        | false =>
          rw [e] at this
          simp at this
          simp
          exact fun z1 z2 => this hsi z1 z2
        | true =>
          rw [e] at this
          simp at this
          simp
          exact ⟨this.2.1, this.2.2⟩)
      rw [show (0 : Int32) = pu_b false from rfl, this]
      cases pu_a q i <;> cases q i <;> rfl
    · have eq : q i = false := by
        cases e : q i with
        | false => rfl
        | true => exact absurd ((hq i).mp e).1 hsi
      have := pm_goodIn (cu := cu) (pa := pa) (re := re) (k7 := k) (all := !(pu_a q i)) hg hn hs hi (h6 i hi) h5 hp (hr i hi) 24 (P i) 4000 false true (by omega) (by omega) (by omega) (by
        simp
        intro z
        have := pq_le (fun k hk => h5 k (by omega)) z
        omega)
      rw [show (0 : Int32) = pu_b false from rfl, this, eq]
      cases pu_a q i <;> rfl
  · show fb_M_good_7 cu pa re k (nI g) (nI s) (pu_b (!(pu_a q n))) (nI n) = _
    unfold fb_M_good_7
    rw [jv_gp (pu_g (by omega) (by decide)), nI_clamp (by omega), hc, if_pos (nI_le (Nat.le_refl n) (by omega)), jv_gp (pu_bz _)]
    congr 2
    cases e : pu_a q n with
    | false =>
      have : b = true := by
        rw [hb]
        intro k z1 z2 z3 z4
        have : pu_a q n = true := (pu_a_iff q n).mpr ⟨k, z2, (hq k).mpr ⟨z1, z3, z4⟩⟩
        rw [e] at this
        cases this
      rw [this]
      rfl
    | true =>
      obtain ⟨k, z1, z2⟩ := (pu_a_iff q n).mp e
      obtain ⟨y1, y2, y3⟩ := (hq k).mp z2
      cases b with
      | false => rfl
      | true => exact absurd y3 (hb.mp rfl k y1 z1 y2)
/-- two names in the reference's letters, compared -/
theorem pm_sameLoop {a b : Nat} {la lb : List Nat} {si lt : Nat → Int32} (ha : a < 48) (hb : b < 48) (oa : pu_ok la) (ob : pu_ok lb) (hlen : la.length = lb.length) (hsa : si a = nI la.length) (hla : ∀ i, i < la.length → lt (6 * a + i) = nI (la.getD i 0)) (hlb : ∀ i, i < lb.length → lt (6 * b + i) = nI (lb.getD i 0)) :
    ∀ (d i N : Nat), i + d = la.length → d < N → (∀ j, j < i → la.getD j 0 = lb.getD j 0) → fl_M_sameName_24 si lt N (nI a, nI b, 1, nI i) = some (pu_b (decide (la = lb))) := by
  have h6 := oa.1
  intro d
  induction d with
  | zero =>
    intro i N hi hN he
    have e : i = la.length := by omega
    subst e
    cases N with
    | zero => omega
    | succ N =>
      rw [fs_M_sameName_24]
      unfold fb_M_sameName_24
      rw [jv_gp (pu_g (by omega) (by decide)), nI_clamp (by omega), hsa, if_pos (nI_le (Nat.le_refl _) (by omega)), jv_gp (by decide)]
      have e : la = lb := by
        apply List.ext_getElem hlen
        intro j h1 h2
        have := he j h1
        rw [List.getD_eq_getElem?_getD, List.getD_eq_getElem?_getD, List.getElem?_eq_getElem h1, List.getElem?_eq_getElem h2] at this
        exact this
      rw [e]
      simp [pu_b]
  | succ d ih =>
    intro i N hi hN he
    cases N with
    | zero => omega
    | succ N =>
      have pa_ := pn_getD_pos oa (show i < la.length by omega)
      have pb_ := pn_getD_pos ob (show i < lb.length by omega)
      rw [fs_M_sameName_24]
      unfold fb_M_sameName_24
      rw [jv_gp (pu_g (by omega) (by decide)), nI_clamp (by omega), hsa, if_neg (nI_ge (by omega) (by omega)), if_neg (by decide), pm_ix6, pm_ix6, jv_gp (pu_g (by omega) (by decide)), jv_gp (pu_g (by omega) (by decide)), nI_clamp (by omega), nI_clamp (by omega), hla i (by omega), hlb i (by omega), nI_1]
      by_cases e : la.getD i 0 = lb.getD i 0
      · rw [if_pos (by rw [e]), ih (i + 1) N (by omega) (by omega) (fun j hj => by
          by_cases ej : j = i
          · rw [ej]; exact e
          · exact he j (by omega))]
      · rw [if_neg (fun q => e ((nI_eq (by omega) (by omega)).mp q))]
        cases N with
        | zero => omega
        | succ N =>
          have ne : ¬ la = lb := fun q => e (by rw [q])
          rw [fs_M_sameName_24]
          unfold fb_M_sameName_24
          rw [jv_gp (pu_g (by omega) (by decide)), nI_clamp (by omega), hsa]
          by_cases e2 : nI la.length ≤ nI (i + 1)
          · rw [if_pos e2, jv_gp (by decide)]
            simp [pu_b, ne]
          · rw [if_neg e2, if_pos rfl, jv_gp (by decide)]
            simp [pu_b, ne]
theorem pm_same {a b : Nat} {la lb : List Nat} {si lt : Nat → Int32} (ha : a < 48) (hb : b < 48) (oa : pu_ok la) (ob : pu_ok lb) (hsa : si a = nI la.length) (hsb : si b = nI lb.length) (hla : ∀ i, i < la.length → lt (6 * a + i) = nI (la.getD i 0)) (hlb : ∀ i, i < lb.length → lt (6 * b + i) = nI (lb.getD i 0)) :
    fn_M_sameName si lt (nI a) (nI b) = some (pu_b (decide (la = lb))) := by
  have h6 := oa.1
  have h7 := ob.1
  unfold fn_M_sameName
  rw [jv_gp (pu_g (by omega) (by decide)), jv_gp (pu_g (by omega) (by decide)), nI_clamp (by omega), nI_clamp (by omega), hsa, hsb]
  by_cases e : la.length = lb.length
  · rw [if_pos (by rw [e])]
    exact pm_sameLoop ha hb oa ob e hsa hla hlb la.length 0 4000 (by omega) (by omega) (fun j hj => by omega)
  · rw [if_neg (fun q => e ((nI_eq (by omega) (by omega)).mp q))]
    have ne : ¬ la = lb := fun q => e (by rw [q])
    rw [show (4000 : Nat) = 3999 + 1 from rfl, fs_M_sameName_24]
    unfold fb_M_sameName_24
    rw [jv_gp (pu_g (by omega) (by decide)), nI_clamp (by omega), hsa]
    by_cases e2 : nI la.length ≤ 0
    · rw [if_pos e2, jv_gp (by decide)]
      simp [pu_b, ne]
    · rw [if_neg e2, if_pos rfl, jv_gp (by decide)]
      simp [pu_b, ne]
