/-! The ground: what a decompiled method is made of (guards, binds, loops with fuel), and the call rows in the form that the text program lays. -/
def jv_gd {α : Type} (b : Bool) (k : Option α) : Option α := if b = true then k else none
theorem jv_gi {α : Type} {b : Bool} {k : Option α} {o : α} (h : jv_gd b k = some o) : b = true ∧ k = some o := by
  unfold jv_gd at h
  by_cases hb : b = true
  · rw [if_pos hb] at h
    exact ⟨hb, h⟩
  · rw [if_neg hb] at h
    cases h
theorem jv_gp {α : Type} {b : Bool} {k : Option α} (h : b = true) : jv_gd b k = k := by
  unfold jv_gd
  rw [if_pos h]
def jv_ig (i : Int32) (n : Nat) : Bool := !(decide (i < 0) || decide (n ≤ i.toNatClampNeg))
theorem jv_in {i : Int32} {n : Nat} (h : jv_ig i n = true) : vp_in i n := by
  unfold jv_ig at h
  unfold vp_in
  intro hc
  rcases hc with hc | hc <;> simp [hc] at h
theorem jv_ni {i : Int32} {n : Nat} (h : vp_in i n) : jv_ig i n = true := by
  unfold vp_in at h
  unfold jv_ig
  by_cases h1 : i < 0
  · exact absurd (Or.inl h1) h
  · by_cases h2 : n ≤ i.toNatClampNeg
    · exact absurd (Or.inr h2) h
    · simp [h1, h2]
def jv_zb (x : Int32) : Bool := decide (x = 0) || decide (x = 1)
theorem jv_zn {x : Int32} (h : jv_zb x = true) : narrow .boolean (.int x) = .int x ∧ fits .boolean (.int x) = true := by
  have h2 : x = 0 ∨ x = 1 := by simpa [jv_zb] using h
  rcases h2 with rfl | rfl <;> exact ⟨rfl, rfl⟩
theorem jv_bi {α β : Type} {o : Option α} {f : α → Option β} {b : β} (h : Option.bind o f = some b) : ∃ a, o = some a ∧ f a = some b := by
  cases o with
  | none => cases h
  | some a => exact ⟨a, rfl, h⟩
theorem jv_t {α : Type} {c : Prop} {i : Decidable c} {A B : Option α} {o : α} (hc : c) (h : (@ite _ c i A B) = some o) : A = some o := by
  rw [if_pos hc] at h
  exact h
theorem jv_f {α : Type} {c : Prop} {i : Decidable c} {A B : Option α} {o : α} (hc : ¬ c) (h : (@ite _ c i A B) = some o) : B = some o := by
  rw [if_neg hc] at h
  exact h
theorem jv_no {α : Type} {o : α} (h : (none : Option α) = some o) : False := by cases h
def jv_lp {σ ρ : Type} (f : (σ → Option ρ) → σ → Option ρ) : Nat → σ → Option ρ
  | 0 => fun _ => none
  | n + 1 => fun z => f (jv_lp f n) z
theorem jv_ls {σ ρ : Type} (f : (σ → Option ρ) → σ → Option ρ) (n : Nat) (z : σ) : jv_lp f (n + 1) z = f (jv_lp f n) z := rfl
def st_tx : List (List Nat) := [[84, 65, 80, 32, 118, 101, 114, 115, 105, 111, 110, 32, 49, 52], [32, 32, 32, 32], [35, 32, 83, 117, 98, 116, 101, 115, 116, 58, 32], [111, 107, 32], [110, 111, 116, 32, 111, 107, 32], [32, 45, 32], [32, 35, 32, 83, 75, 73, 80], [32, 35, 32, 84, 79, 68, 79], [49, 46, 46], [66, 97, 105, 108, 32, 111, 117, 116, 33], []]
def fn_S_length (i : Nat) : Option Int32 := if i < 11 then some (nI (st_tx.getD i []).length) else none
def fn_S_charAt (i : Nat) (j : Int32) : Option Int32 := if i < 11 then jv_gd (jv_ig j (st_tx.getD i []).length) (some (nI ((st_tx.getD i []).getD j.toNatClampNeg 0))) else none
