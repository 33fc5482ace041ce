/-! Pure rows: a report in mathematical words, and what is always so of it. -/
/-- the row in which the suite of a row lies -/
def pq_q (P : Nat → Nat) (r : Nat) : Nat := match r with
  | 0 => 0
  | i + 1 => P i
def pq_it (P : Nat → Nat) : Nat → Nat → Nat
  | 0, r => r
  | j + 1, r => pq_it P j (pq_q P r)
/-- row a lies on the way outwards from row r -/
def pq_on (P : Nat → Nat) (r a : Nat) : Prop := ∃ j, pq_it P j r = a
theorem pq_refl (P : Nat → Nat) (r : Nat) : pq_on P r r := ⟨0, rfl⟩
theorem pq_step {P : Nat → Nat} {r a : Nat} (h : pq_on P (pq_q P r) a) : pq_on P r a := by
  obtain ⟨j, hj⟩ := h
  exact ⟨j + 1, hj⟩
theorem pq_cases {P : Nat → Nat} {r a : Nat} (h : pq_on P r a) : a = r ∨ pq_on P (pq_q P r) a := by
  obtain ⟨j, hj⟩ := h
  cases j with
  | zero => exact Or.inl hj.symm
  | succ j => exact Or.inr ⟨j, hj⟩
theorem pq_it_q (P : Nat → Nat) (j r : Nat) : pq_it P j (pq_q P r) = pq_q P (pq_it P j r) := by
  induction j generalizing r with
  | zero => rfl
  | succ j ih => exact ih (pq_q P r)
theorem pq_more {P : Nat → Nat} {r a : Nat} (h : pq_on P r a) : pq_on P r (pq_q P a) := by
  obtain ⟨j, hj⟩ := h
  exact ⟨j + 1, by show pq_it P j (pq_q P r) = _; rw [pq_it_q, hj]⟩
theorem pq_trans {P : Nat → Nat} {r a b : Nat} (h : pq_on P r a) (h2 : pq_on P a b) : pq_on P r b := by
  obtain ⟨j, hj⟩ := h
  induction j generalizing r with
  | zero =>
    have e : r = a := hj
    rw [e]
    exact h2
  | succ j ih => exact pq_step (ih hj)
theorem pq_le {P : Nat → Nat} {r a : Nat} (hP : ∀ k, k < r → P k ≤ k) (h : pq_on P r a) : a ≤ r := by
  obtain ⟨j, hj⟩ := h
  induction j generalizing r with
  | zero =>
    have e : r = a := hj
    omega
  | succ j ih =>
    cases r with
    | zero =>
      have e : pq_it P j 0 = a := hj
      exact ih hP e
    | succ i =>
      have e : pq_it P j (P i) = a := hj
      have hi := hP i (by omega)
      have := ih (fun k hk => hP k (by omega)) e
      omega
/-- what stands behind a row doesn't matter to the way outwards -/
theorem pq_ext {P Q : Nat → Nat} {r a : Nat} (hP : ∀ k, k < r → P k ≤ k) (h : ∀ k, k < r → Q k = P k) (h2 : pq_on P r a) : pq_on Q r a := by
  obtain ⟨j, hj⟩ := h2
  induction j generalizing r with
  | zero => exact ⟨0, hj⟩
  | succ j ih =>
    cases r with
    | zero => exact pq_step (ih hP h hj)
    | succ i =>
      have hi := hP i (by omega)
      have e : pq_it P j (P i) = a := hj
      have := ih (fun k hk => hP k (by omega)) (fun k hk => h k (by omega)) e
      refine pq_step ?_
      show pq_on Q (Q i) a
      rw [h i (by omega)]
      exact this
/-- the row that goes on behind node k -/
def pq_ra (K P : Nat → Nat) (k : Nat) : Nat := if 4 ≤ K k then k + 1 else P k
/-- what is always so of a report: n nodes, kinds K, depths D, rows P, names N; L the innermost row, O open suites -/
def iv_ (n : Nat) (K D P : Nat → Nat) (N : Nat → List Nat) (L O : Nat) : Prop :=
  (n ≤ 24 ∧ L ≤ n ∧ O ≤ 3) ∧
  ((∀ k, k < n → K k ≤ 6) ∧ (∀ k, k < n → P k ≤ k) ∧ ∀ k, k < n → pu_ok (N k)) ∧
  ((∀ k, k < n → P k = 0 → D k = 0) ∧ ∀ k i, k < n → P k = i + 1 → 4 ≤ K i ∧ D k = D i + 1) ∧
  ((∀ k, k < n → D k ≤ 3) ∧ ∀ k, k < n → 4 ≤ K k → D k ≤ 2) ∧
  ((L = 0 → O = 0) ∧ ∀ i, L = i + 1 → K i = 6 ∧ O = D i + 1) ∧
  (∀ a, a < n → (K a = 6 ↔ pq_on P L (a + 1))) ∧
  (∀ a k, a < k → k < n → K a = 6 → pq_on P (P k) (a + 1)) ∧
  (∀ s, s < n → K s = 5 → ∃ k, s < k ∧ k < n ∧ pq_on P (P k) (s + 1) ∧ K k = 1) ∧
  (∀ s k, s < n → K s = 4 → s < k → k < n → pq_on P (P k) (s + 1) → K k ≠ 1) ∧
  (∀ k, k + 1 < n → pq_on P (pq_ra K P k) (P (k + 1))) ∧
  ((n = 0 → L = 0) ∧ ∀ k, k + 1 = n → pq_on P (pq_ra K P k) L)
theorem iv_new (K D P : Nat → Nat) (N : Nat → List Nat) : iv_ 0 K D P N 0 0 := by
  refine ⟨⟨by omega, by omega, by omega⟩, ⟨fun k h => by omega, fun k h => by omega, fun k h => by omega⟩, ⟨fun k h => by omega, fun k i h => by omega⟩, ⟨fun k h => by omega, fun k h => by omega⟩, ⟨fun _ => rfl, fun i h => by omega⟩, fun a h => by omega, fun a k h h2 => by omega, fun s h => by omega, fun s k h => by omega, fun k h => by omega, ⟨fun _ => rfl, fun k h => by omega⟩⟩
def pq_up {α : Type} (f : Nat → α) (k : Nat) (x : α) : Nat → α := fun j => if j = k then x else f j
theorem pq_us {α : Type} {f : Nat → α} {k : Nat} {x : α} : pq_up f k x k = x := by
  unfold pq_up
  rw [if_pos rfl]
theorem pq_un {α : Type} {f : Nat → α} {k j : Nat} {x : α} (h : j ≠ k) : pq_up f k x j = f j := by
  unfold pq_up
  rw [if_neg h]
/-- a node is added in the innermost row -/
theorem iv_add {n : Nat} {K D P : Nat → Nat} {N : Nat → List Nat} {L O : Nat} (h : iv_ n K D P N L O) (hn : n < 24) {k : Nat} {l : List Nat} (hl : pu_ok l) (hk : k < 4 ∨ (k = 6 ∧ O < 3)) :
    iv_ (n + 1) (pq_up K n k) (pq_up D n O) (pq_up P n L) (pq_up N n l) (if k = 6 then n + 1 else L) (if k = 6 then O + 1 else O) := by
  obtain ⟨⟨h1, h2, h3⟩, ⟨h4, h5, h6⟩, ⟨h7, h8⟩, ⟨h9, h10⟩, ⟨h11, h12⟩, h13, h14, h15, h16, h17, ⟨h18, h19⟩⟩ := h
  have hLk : ∀ q, q < L → P q ≤ q := fun q hq => h5 q (by omega)
  have ext : ∀ (r a : Nat), r ≤ n → (pq_on (pq_up P n L) r a ↔ pq_on P r a) := by
    intro r a hr
    constructor
    · refine pq_ext (fun q hq => ?_) (fun q hq => (pq_un (by omega)).symm)
      rw [pq_un (by omega)]
      exact h5 q (by omega)
    · exact pq_ext (fun q hq => h5 q (by omega)) (fun q hq => pq_un (by omega))
  have Pn : pq_up P n L n = L := pq_us
  have hPle : ∀ q, q < n + 1 → pq_up P n L q ≤ q := by
    intro q hq
    by_cases e : q = n
    · rw [e, Pn]; omega
    · rw [pq_un e]; exact h5 q (by omega)
  have hO : L ≠ 0 → ∃ i, L = i + 1 := fun q => ⟨L - 1, by omega⟩
  have ra : ∀ q, q < n → pq_ra (pq_up K n k) (pq_up P n L) q = pq_ra K P q := by
    intro q hq
    unfold pq_ra
    rw [pq_un (by omega), pq_un (by omega)]
  have rale : ∀ q, q < n → pq_ra K P q ≤ n := by
    intro q hq
    unfold pq_ra
    have := h5 q hq
    by_cases e : 4 ≤ K q
    · rw [if_pos e]; omega
    · rw [if_neg e]; omega
  have q10 : pq_q (pq_up P n L) (n + 1) = L := Pn
  refine ⟨⟨by omega, ?_, ?_⟩, ⟨fun q hq => ?_, hPle, fun q hq => ?_⟩, ⟨fun q hq => ?_, fun q i hq => ?_⟩, ⟨fun q hq => ?_, fun q hq => ?_⟩, ⟨?_, ?_⟩, fun a ha => ?_, fun a q haq hq => ?_, fun s hs => ?_, fun s q hs => ?_, fun q hq => ?_, ⟨fun e => by omega, fun q hq => ?_⟩⟩
  · by_cases e : k = 6
    · rw [if_pos e]; omega
    · rw [if_neg e]; omega
  · by_cases e : k = 6
    · rw [if_pos e]
      rcases hk with q | q <;> omega
    · rw [if_neg e]; exact h3
  · by_cases e : q = n
    · rw [e, pq_us]
      rcases hk with z | z <;> omega
    · rw [pq_un e]; exact h4 q (by omega)
  · by_cases e : q = n
    · rw [e, pq_us]; exact hl
    · rw [pq_un e]; exact h6 q (by omega)
  · by_cases e : q = n
    · rw [e, Pn, pq_us]; exact h11
    · rw [pq_un e, pq_un e]; exact h7 q (by omega)
  · by_cases e : q = n
    · rw [e, Pn, pq_us]
      intro hi
      obtain ⟨a1, a2⟩ := h12 i hi
      have : i < n := by omega
      rw [pq_un (by omega), pq_un (by omega)]
      exact ⟨by omega, a2⟩
    · rw [pq_un e]
      intro hi
      have hq2 := h5 q (by omega)
      obtain ⟨a1, a2⟩ := h8 q i (by omega) hi
      rw [pq_un (show i ≠ n by omega), pq_un e, pq_un (show i ≠ n by omega)]
      exact ⟨a1, a2⟩
  · by_cases e : q = n
    · rw [e, pq_us]; exact h3
    · rw [pq_un e]; exact h9 q (by omega)
  · by_cases e : q = n
    · rw [e, pq_us, pq_us]
      intro z
      rcases hk with w | w <;> omega
    · rw [pq_un e, pq_un e]; exact h10 q (by omega)
  · by_cases e : k = 6
    · rw [if_pos e, if_pos e]; intro z; omega
    · rw [if_neg e, if_neg e]; exact h11
  · intro i
    by_cases e : k = 6
    · rw [if_pos e, if_pos e]
      intro z
      have : i = n := by omega
      rw [this, pq_us, pq_us]
      exact ⟨e, rfl⟩
    · rw [if_neg e, if_neg e]
      intro z
      obtain ⟨a1, a2⟩ := h12 i z
      rw [pq_un (show i ≠ n by omega), pq_un (show i ≠ n by omega)]
      exact ⟨a1, a2⟩
  · by_cases e : k = 6
    · rw [if_pos e]
      by_cases ea : a = n
      · rw [ea, pq_us]
        exact ⟨fun _ => pq_refl _ _, fun _ => e⟩
      · rw [pq_un ea, h13 a (by omega), ← ext L (a + 1) h2]
        constructor
        · intro z
          refine pq_step ?_
          rw [q10]
          exact z
        · intro z
          rcases pq_cases z with z | z
          · omega
          · rw [q10] at z
            exact z
    · rw [if_neg e]
      by_cases ea : a = n
      · rw [ea, pq_us]
        refine ⟨fun z => absurd z e, fun z => ?_⟩
        have := pq_le (fun q hq => hPle q (by omega)) z
        omega
      · rw [pq_un ea, h13 a (by omega), ← ext L (a + 1) h2]
  · intro z
    rw [pq_un (show a ≠ n by omega)] at z
    by_cases eq : q = n
    · rw [eq, Pn, ext L (a + 1) h2]
      exact (h13 a (by omega)).mp z
    · have := h5 q (by omega)
      rw [pq_un eq, ext (P q) (a + 1) (by omega)]
      exact h14 a q haq (by omega) z
  · intro z
    have es : s ≠ n := by
      intro w
      rw [w, pq_us] at z
      rcases hk with v | v <;> omega
    rw [pq_un es] at z
    obtain ⟨q, a1, a2, a3, a4⟩ := h15 s (by omega) z
    have := h5 q a2
    refine ⟨q, a1, by omega, ?_, ?_⟩
    · rw [pq_un (by omega), ext (P q) (s + 1) (by omega)]
      exact a3
    · rw [pq_un (by omega)]
      exact a4
  · intro z hsq hq w
    have es : s ≠ n := by
      intro w2
      rw [w2, pq_us] at z
      rcases hk with v | v <;> omega
    rw [pq_un es] at z
    by_cases eq : q = n
    · rw [eq, Pn, ext L (s + 1) h2] at w
      have := (h13 s (by omega)).mpr w
      omega
    · have := h5 q (by omega)
      rw [pq_un eq, ext (P q) (s + 1) (by omega)] at w
      rw [pq_un eq]
      exact h16 s q (by omega) z hsq (by omega) w
  · rw [ra q (by omega), ext _ _ (rale q (by omega))]
    by_cases e : q + 1 = n
    · rw [e, Pn]
      exact h19 q e
    · rw [pq_un e]
      exact h17 q (by omega)
  · have e : q = n := by omega
    rw [e]
    unfold pq_ra
    rw [pq_us, Pn]
    by_cases e6 : k = 6
    · rw [if_pos (show 4 ≤ k by omega), if_pos e6]
      exact pq_refl _ _
    · have : k < 4 := by
        rcases hk with v | v <;> omega
      rw [if_neg (show ¬ 4 ≤ k by omega), if_neg e6]
      exact pq_refl _ _
/-- the innermost suite is closed -/
theorem iv_close {n : Nat} {K D P : Nat → Nat} {N : Nat → List Nat} {O i : Nat} (h : iv_ n K D P N (i + 1) O) {k : Nat} (hk : (k = 5 ∧ ∃ j, i < j ∧ j < n ∧ K j = 1) ∨ (k = 4 ∧ ∀ j, i < j → j < n → K j ≠ 1)) :
    iv_ n (pq_up K i k) D P N (P i) (O - 1) := by
  obtain ⟨⟨h1, h2, h3⟩, ⟨h4, h5, h6⟩, ⟨h7, h8⟩, ⟨h9, h10⟩, ⟨h11, h12⟩, h13, h14, h15, h16, h17, ⟨h18, h19⟩⟩ := h
  obtain ⟨hi6, hiO⟩ := h12 i rfl
  have hin : i < n := by omega
  have hPi := h5 i hin
  have k45 : 4 ≤ k ∧ k ≤ 5 := by
    rcases hk with q | q <;> omega
  have hU : ∀ q, (4 ≤ pq_up K i k q ↔ 4 ≤ K q) := by
    intro q
    by_cases e : q = i
    · rw [e, pq_us]; omega
    · rw [pq_un e]
  have h1' : ∀ q, (pq_up K i k q = 1 ↔ K q = 1) := by
    intro q
    by_cases e : q = i
    · rw [e, pq_us]; omega
    · rw [pq_un e]
  have ra : ∀ q, pq_ra (pq_up K i k) P q = pq_ra K P q := by
    intro q
    unfold pq_ra
    by_cases e : 4 ≤ K q
    · rw [if_pos e, if_pos ((hU q).mpr e)]
    · rw [if_neg e, if_neg (fun z => e ((hU q).mp z))]
  refine ⟨⟨h1, by omega, by omega⟩, ⟨fun q hq => ?_, h5, h6⟩, ⟨h7, fun q j hq hj => ?_⟩, ⟨h9, fun q hq z => h10 q hq ((hU q).mp z)⟩, ⟨fun e => ?_, fun j hj => ?_⟩, fun a ha => ?_, fun a q haq hq z => ?_, fun s hs z => ?_, fun s q hs z hsq hq w => ?_, fun q hq => ?_, ⟨fun e => by omega, fun q hq => ?_⟩⟩
  · by_cases e : q = i
    · rw [e, pq_us]; omega
    · rw [pq_un e]; exact h4 q hq
  · obtain ⟨a1, a2⟩ := h8 q j hq hj
    exact ⟨(hU j).mpr a1, a2⟩
  · have := h7 i hin e
    omega
  · obtain ⟨a1, a2⟩ := h8 i j hin hj
    have on1 : pq_on P (i + 1) (j + 1) := pq_step (by show pq_on P (P i) (j + 1); rw [hj]; exact pq_refl _ _)
    have := (h13 j (by omega)).mpr on1
    rw [pq_un (by omega)]
    exact ⟨this, by omega⟩
  · by_cases e : a = i
    · rw [e, pq_us]
      refine ⟨fun z => by omega, fun z => ?_⟩
      have := pq_le (fun q hq => h5 q (by omega)) z
      omega
    · rw [pq_un e, h13 a ha]
      constructor
      · intro z
        rcases pq_cases z with w | w
        · omega
        · exact w
      · exact fun w => pq_step (r := i + 1) w
  · have e : a ≠ i := by
      intro w
      rw [w, pq_us] at z
      omega
    rw [pq_un e] at z
    exact h14 a q haq hq z
  · by_cases e : s = i
    · rw [e] at z ⊢
      rw [pq_us] at z
      rcases hk with ⟨_, j, b1, b2, b3⟩ | ⟨b1, _⟩
      · exact ⟨j, b1, b2, h14 i j b1 b2 hi6, (h1' j).mpr b3⟩
      · omega
    · rw [pq_un e] at z
      obtain ⟨j, b1, b2, b3, b4⟩ := h15 s hs z
      exact ⟨j, b1, b2, b3, (h1' j).mpr b4⟩
  · rw [Ne, h1']
    by_cases e : s = i
    · rw [e] at z hsq
      rw [pq_us] at z
      rcases hk with ⟨b1, _⟩ | ⟨_, b2⟩
      · omega
      · exact b2 q hsq hq
    · rw [pq_un e] at z
      exact h16 s q hs z hsq hq w
  · rw [ra]
    exact h17 q hq
  · rw [ra]
    exact pq_more (h19 q hq)
