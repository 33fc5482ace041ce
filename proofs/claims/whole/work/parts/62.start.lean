/-! The law from its entry: what the Statement gives of the start. -/
def sw_t (i : Nat) : Term := match i with
  | 0 => .string cn_W 25
  | 1 => .string cn_P 33
  | 2 => .string cn_W 90
  | 3 => .string cn_W 117
  | 4 => .string cn_W 115
  | 5 => .string cn_W 110
  | 6 => .string cn_W 119
  | 7 => .string cn_W 121
  | 8 => .string cn_W 79
  | 9 => .string cn_W 71
  | _ => .string cn_W 123
abbrev sw_F : List Cond := flatC (Jvm.Cond.and given_1 narrow_1)
def sw_nav : List Bool → Cond → Option Cond
  | [], c => some c
  | b :: p, .and x y => sw_nav p (match b with | true => y | false => x)
  | _ :: _, _ => none
theorem sw_go {args : Array Value} {s : State} : ∀ (p : List Bool) (T c : Cond), T.before args s = true → sw_nav p T = some c → c.before args s = true := by
  intro p
  induction p with
  | nil =>
    intro T c h e
    have e : T = c := Option.some.inj e
    exact e ▸ h
  | cons b p ih =>
    intro T c h e
    cases T with
    | and x y =>
      rw [Cond.before_and, Bool.and_eq_true] at h
      cases b with
      | true => exact ih y c h.2 e
      | false => exact ih x c h.1 e
    | _ => cases e
set_option maxRecDepth 100000 in
theorem sw_ex {args : Array Value} {s : State} (hg : (Jvm.Cond.and given_1 narrow_1).before args s = true) : ∀ i, i < 11 → (Cond.exactly (sw_t i) "java/lang/String").before args s = true := by
  intro i hi
  rcases (show i = 0 ∨ i = 1 ∨ i = 2 ∨ i = 3 ∨ i = 4 ∨ i = 5 ∨ i = 6 ∨ i = 7 ∨ i = 8 ∨ i = 9 ∨ i = 10 by omega) with rfl | rfl | rfl | rfl | rfl | rfl | rfl | rfl | rfl | rfl | rfl
  · exact sw_go [true, false, false, false, false, false, true, false, true, false] _ _ hg rfl
  · exact sw_go [true, false, false, false, false, true, true, true, true, false] _ _ hg rfl
  · exact sw_go [true, false, true, false, false, true, false, true, true, false] _ _ hg rfl
  · exact sw_go [true, false, false, true, false, false, false, true, false] _ _ hg rfl
  · exact sw_go [true, false, false, false, true, true, false, true, false, false] _ _ hg rfl
  · exact sw_go [true, false, false, true, false, true, false, false, true, false] _ _ hg rfl
  · exact sw_go [true, false, false, true, false, true, true, true, true, true] _ _ hg rfl
  · exact sw_go [true, false, false, true, true, true, false, false, true, true] _ _ hg rfl
  · exact sw_go [true, false, false, false, true, false, true, false, true, false] _ _ hg rfl
  · exact sw_go [true, false, true, false, true, true, false, false, true, true] _ _ hg rfl
  · exact sw_go [true, false, true, false, false, false, true, false, false] _ _ hg rfl
set_option maxRecDepth 100000 in
theorem sw_co {args : Array Value} {s : State} (hg : (Jvm.Cond.and given_1 narrow_1).before args s = true) : ∀ i, i < 11 → (Cond.eq (.field (sw_t i) "java/lang/String" "coder" "B") (.int 0)).before args s = true := by
  intro i hi
  rcases (show i = 0 ∨ i = 1 ∨ i = 2 ∨ i = 3 ∨ i = 4 ∨ i = 5 ∨ i = 6 ∨ i = 7 ∨ i = 8 ∨ i = 9 ∨ i = 10 by omega) with rfl | rfl | rfl | rfl | rfl | rfl | rfl | rfl | rfl | rfl | rfl
  · exact sw_go [true, false, false, false, false, false, true, false, true, true] _ _ hg rfl
  · exact sw_go [true, false, false, false, false, true, true, true, true, true] _ _ hg rfl
  · exact sw_go [true, false, true, false, false, true, false, true, true, true] _ _ hg rfl
  · exact sw_go [true, false, false, true, false, false, false, true, true, false] _ _ hg rfl
  · exact sw_go [true, false, false, false, true, true, false, true, false, true] _ _ hg rfl
  · exact sw_go [true, false, false, true, false, true, false, false, true, true] _ _ hg rfl
  · exact sw_go [true, false, false, true, true, false, false, false, false] _ _ hg rfl
  · exact sw_go [true, false, false, true, true, true, false, true, false, false] _ _ hg rfl
  · exact sw_go [true, false, false, false, true, false, true, false, true, true] _ _ hg rfl
  · exact sw_go [true, false, true, false, true, true, false, true, false, false] _ _ hg rfl
  · exact sw_go [true, false, true, false, false, false, true, false, true, false] _ _ hg rfl
set_option maxRecDepth 100000 in
theorem sw_ar {args : Array Value} {s : State} (hg : (Jvm.Cond.and given_1 narrow_1).before args s = true) : ∀ i, i < 11 → (Cond.arrayOf (.field (sw_t i) "java/lang/String" "value" "[B") .byte).before args s = true := by
  intro i hi
  rcases (show i = 0 ∨ i = 1 ∨ i = 2 ∨ i = 3 ∨ i = 4 ∨ i = 5 ∨ i = 6 ∨ i = 7 ∨ i = 8 ∨ i = 9 ∨ i = 10 by omega) with rfl | rfl | rfl | rfl | rfl | rfl | rfl | rfl | rfl | rfl | rfl
  · exact sw_go [true, false, false, false, false, false, true, true, false, false] _ _ hg rfl
  · exact sw_go [true, false, false, false, true, false, false, false, false] _ _ hg rfl
  · exact sw_go [true, false, true, false, false, true, true, false, false] _ _ hg rfl
  · exact sw_go [true, false, false, true, false, false, false, true, true, true] _ _ hg rfl
  · exact sw_go [true, false, false, false, true, true, false, true, true, false] _ _ hg rfl
  · exact sw_go [true, false, false, true, false, true, false, true, false, false] _ _ hg rfl
  · exact sw_go [true, false, false, true, true, false, false, false, true, false] _ _ hg rfl
  · exact sw_go [true, false, false, true, true, true, false, true, false, true] _ _ hg rfl
  · exact sw_go [true, false, false, false, true, false, true, true, false, false] _ _ hg rfl
  · exact sw_go [true, false, true, false, true, true, false, true, false, true] _ _ hg rfl
  · exact sw_go [true, false, true, false, false, false, true, false, true, true] _ _ hg rfl
set_option maxRecDepth 100000 in
theorem sw_le {args : Array Value} {s : State} (hg : (Jvm.Cond.and given_1 narrow_1).before args s = true) : ∀ i, i < 11 → (Cond.eq (.length (.field (sw_t i) "java/lang/String" "value" "[B")) (.int (Int32.ofNat (st_len.getD i 0)))).before args s = true := by
  intro i hi
  rcases (show i = 0 ∨ i = 1 ∨ i = 2 ∨ i = 3 ∨ i = 4 ∨ i = 5 ∨ i = 6 ∨ i = 7 ∨ i = 8 ∨ i = 9 ∨ i = 10 by omega) with rfl | rfl | rfl | rfl | rfl | rfl | rfl | rfl | rfl | rfl | rfl
  · exact sw_go [true, false, false, false, false, false, true, true, false, true] _ _ hg rfl
  · exact sw_go [true, false, false, false, true, false, false, false, true, false] _ _ hg rfl
  · exact sw_go [true, false, true, false, false, true, true, false, true, false] _ _ hg rfl
  · exact sw_go [true, false, false, true, false, false, true, false, false] _ _ hg rfl
  · exact sw_go [true, false, false, false, true, true, false, true, true, true] _ _ hg rfl
  · exact sw_go [true, false, false, true, false, true, false, true, false, true] _ _ hg rfl
  · exact sw_go [true, false, false, true, true, false, false, false, true, true] _ _ hg rfl
  · exact sw_go [true, false, false, true, true, true, false, true, true, false] _ _ hg rfl
  · exact sw_go [true, false, false, false, true, false, true, true, false, true] _ _ hg rfl
  · exact sw_go [true, false, true, false, true, true, false, true, true, false] _ _ hg rfl
  · exact sw_go [true, false, true, false, false, false, true, true, false, false] _ _ hg rfl
set_option maxRecDepth 100000 in
theorem sw_el {args : Array Value} {s : State} (hg : (Jvm.Cond.and given_1 narrow_1).before args s = true) : ∀ i, i < 11 → ∀ j, j < st_len.getD i 0 → (Cond.eq (.elem (.field (sw_t i) "java/lang/String" "value" "[B") (.int (Int32.ofNat j))) (.int ((st_byt.getD i []).getD j 0))).before args s = true := by
  intro i hi
  rcases (show i = 0 ∨ i = 1 ∨ i = 2 ∨ i = 3 ∨ i = 4 ∨ i = 5 ∨ i = 6 ∨ i = 7 ∨ i = 8 ∨ i = 9 ∨ i = 10 by omega) with rfl | rfl | rfl | rfl | rfl | rfl | rfl | rfl | rfl | rfl | rfl
  · intro j hj; have hj : j < 14 := hj; rcases (show j = 0 ∨ j = 1 ∨ j = 2 ∨ j = 3 ∨ j = 4 ∨ j = 5 ∨ j = 6 ∨ j = 7 ∨ j = 8 ∨ j = 9 ∨ j = 10 ∨ j = 11 ∨ j = 12 ∨ j = 13 by omega) with rfl | rfl | rfl | rfl | rfl | rfl | rfl | rfl | rfl | rfl | rfl | rfl | rfl | rfl
    · exact sw_go [true, false, false, false, false, false, true, true, true, false] _ _ hg rfl
    · exact sw_go [true, false, false, false, false, false, true, true, true, true] _ _ hg rfl
    · exact sw_go [true, false, false, false, false, true, false, false, false] _ _ hg rfl
    · exact sw_go [true, false, false, false, false, true, false, false, true, false] _ _ hg rfl
    · exact sw_go [true, false, false, false, false, true, false, false, true, true] _ _ hg rfl
    · exact sw_go [true, false, false, false, false, true, false, true, false, false] _ _ hg rfl
    · exact sw_go [true, false, false, false, false, true, false, true, false, true] _ _ hg rfl
    · exact sw_go [true, false, false, false, false, true, false, true, true, false] _ _ hg rfl
    · exact sw_go [true, false, false, false, false, true, false, true, true, true] _ _ hg rfl
    · exact sw_go [true, false, false, false, false, true, true, false, false] _ _ hg rfl
    · exact sw_go [true, false, false, false, false, true, true, false, true, false] _ _ hg rfl
    · exact sw_go [true, false, false, false, false, true, true, false, true, true] _ _ hg rfl
    · exact sw_go [true, false, false, false, false, true, true, true, false, false] _ _ hg rfl
    · exact sw_go [true, false, false, false, false, true, true, true, false, true] _ _ hg rfl
  · intro j hj; have hj : j < 4 := hj; rcases (show j = 0 ∨ j = 1 ∨ j = 2 ∨ j = 3 by omega) with rfl | rfl | rfl | rfl
    · exact sw_go [true, false, false, false, true, false, false, false, true, true] _ _ hg rfl
    · exact sw_go [true, false, false, false, true, false, false, true, false] _ _ hg rfl
    · exact sw_go [true, false, false, false, true, false, false, true, true, false] _ _ hg rfl
    · exact sw_go [true, false, false, false, true, false, false, true, true, true] _ _ hg rfl
  · intro j hj; have hj : j < 11 := hj; rcases (show j = 0 ∨ j = 1 ∨ j = 2 ∨ j = 3 ∨ j = 4 ∨ j = 5 ∨ j = 6 ∨ j = 7 ∨ j = 8 ∨ j = 9 ∨ j = 10 by omega) with rfl | rfl | rfl | rfl | rfl | rfl | rfl | rfl | rfl | rfl | rfl
    · exact sw_go [true, false, true, false, false, true, true, false, true, true] _ _ hg rfl
    · exact sw_go [true, false, true, false, false, true, true, true, false, false] _ _ hg rfl
    · exact sw_go [true, false, true, false, false, true, true, true, false, true] _ _ hg rfl
    · exact sw_go [true, false, true, false, false, true, true, true, true, false] _ _ hg rfl
    · exact sw_go [true, false, true, false, false, true, true, true, true, true] _ _ hg rfl
    · exact sw_go [true, false, true, false, true, false, false, false, false] _ _ hg rfl
    · exact sw_go [true, false, true, false, true, false, false, false, true, false] _ _ hg rfl
    · exact sw_go [true, false, true, false, true, false, false, false, true, true] _ _ hg rfl
    · exact sw_go [true, false, true, false, true, false, false, true, false] _ _ hg rfl
    · exact sw_go [true, false, true, false, true, false, false, true, true, false] _ _ hg rfl
    · exact sw_go [true, false, true, false, true, false, false, true, true, true] _ _ hg rfl
  · intro j hj; have hj : j < 3 := hj; rcases (show j = 0 ∨ j = 1 ∨ j = 2 by omega) with rfl | rfl | rfl
    · exact sw_go [true, false, false, true, false, false, true, false, true, false] _ _ hg rfl
    · exact sw_go [true, false, false, true, false, false, true, false, true, true] _ _ hg rfl
    · exact sw_go [true, false, false, true, false, false, true, true, false, false] _ _ hg rfl
  · intro j hj; have hj : j < 7 := hj; rcases (show j = 0 ∨ j = 1 ∨ j = 2 ∨ j = 3 ∨ j = 4 ∨ j = 5 ∨ j = 6 by omega) with rfl | rfl | rfl | rfl | rfl | rfl | rfl
    · exact sw_go [true, false, false, false, true, true, true, false, false] _ _ hg rfl
    · exact sw_go [true, false, false, false, true, true, true, false, true, false] _ _ hg rfl
    · exact sw_go [true, false, false, false, true, true, true, false, true, true] _ _ hg rfl
    · exact sw_go [true, false, false, false, true, true, true, true, false, false] _ _ hg rfl
    · exact sw_go [true, false, false, false, true, true, true, true, false, true] _ _ hg rfl
    · exact sw_go [true, false, false, false, true, true, true, true, true, false] _ _ hg rfl
    · exact sw_go [true, false, false, false, true, true, true, true, true, true] _ _ hg rfl
  · intro j hj; have hj : j < 3 := hj; rcases (show j = 0 ∨ j = 1 ∨ j = 2 by omega) with rfl | rfl | rfl
    · exact sw_go [true, false, false, true, false, true, false, true, true, false] _ _ hg rfl
    · exact sw_go [true, false, false, true, false, true, false, true, true, true] _ _ hg rfl
    · exact sw_go [true, false, false, true, false, true, true, false, false] _ _ hg rfl
  · intro j hj; have hj : j < 7 := hj; rcases (show j = 0 ∨ j = 1 ∨ j = 2 ∨ j = 3 ∨ j = 4 ∨ j = 5 ∨ j = 6 by omega) with rfl | rfl | rfl | rfl | rfl | rfl | rfl
    · exact sw_go [true, false, false, true, true, false, false, true, false, false] _ _ hg rfl
    · exact sw_go [true, false, false, true, true, false, false, true, false, true] _ _ hg rfl
    · exact sw_go [true, false, false, true, true, false, false, true, true, false] _ _ hg rfl
    · exact sw_go [true, false, false, true, true, false, false, true, true, true] _ _ hg rfl
    · exact sw_go [true, false, false, true, true, false, true, false, false] _ _ hg rfl
    · exact sw_go [true, false, false, true, true, false, true, false, true, false] _ _ hg rfl
    · exact sw_go [true, false, false, true, true, false, true, false, true, true] _ _ hg rfl
  · intro j hj; have hj : j < 7 := hj; rcases (show j = 0 ∨ j = 1 ∨ j = 2 ∨ j = 3 ∨ j = 4 ∨ j = 5 ∨ j = 6 by omega) with rfl | rfl | rfl | rfl | rfl | rfl | rfl
    · exact sw_go [true, false, false, true, true, true, false, true, true, true] _ _ hg rfl
    · exact sw_go [true, false, false, true, true, true, true, false, false] _ _ hg rfl
    · exact sw_go [true, false, false, true, true, true, true, false, true, false] _ _ hg rfl
    · exact sw_go [true, false, false, true, true, true, true, false, true, true] _ _ hg rfl
    · exact sw_go [true, false, false, true, true, true, true, true, false, false] _ _ hg rfl
    · exact sw_go [true, false, false, true, true, true, true, true, false, true] _ _ hg rfl
    · exact sw_go [true, false, false, true, true, true, true, true, true, false] _ _ hg rfl
  · intro j hj; have hj : j < 3 := hj; rcases (show j = 0 ∨ j = 1 ∨ j = 2 by omega) with rfl | rfl | rfl
    · exact sw_go [true, false, false, false, true, false, true, true, true, false] _ _ hg rfl
    · exact sw_go [true, false, false, false, true, false, true, true, true, true] _ _ hg rfl
    · exact sw_go [true, false, false, false, true, true, false, false, false] _ _ hg rfl
  · intro j hj; have hj : j < 9 := hj; rcases (show j = 0 ∨ j = 1 ∨ j = 2 ∨ j = 3 ∨ j = 4 ∨ j = 5 ∨ j = 6 ∨ j = 7 ∨ j = 8 by omega) with rfl | rfl | rfl | rfl | rfl | rfl | rfl | rfl | rfl
    · exact sw_go [true, false, true, false, true, true, false, true, true, true] _ _ hg rfl
    · exact sw_go [true, false, true, false, true, true, true, false, false] _ _ hg rfl
    · exact sw_go [true, false, true, false, true, true, true, false, true, false] _ _ hg rfl
    · exact sw_go [true, false, true, false, true, true, true, false, true, true] _ _ hg rfl
    · exact sw_go [true, false, true, false, true, true, true, true, false, false] _ _ hg rfl
    · exact sw_go [true, false, true, false, true, true, true, true, false, true] _ _ hg rfl
    · exact sw_go [true, false, true, false, true, true, true, true, true, false] _ _ hg rfl
    · exact sw_go [true, false, true, false, true, true, true, true, true, true] _ _ hg rfl
    · exact sw_go [true, false, true, true, false, false, false, false, false] _ _ hg rfl
  · exact fun j hj => absurd hj (Nat.not_lt_zero _)
set_option maxRecDepth 100000 in
theorem sw_ne {args : Array Value} {s : State} (hg : (Jvm.Cond.and given_1 narrow_1).before args s = true) : ∀ i, i < 11 → ∀ j, j < 11 → i ≠ j → ((Cond.not (Cond.eq (sw_t i) (sw_t j))).before args s = true ∨ (Cond.not (Cond.eq (sw_t j) (sw_t i))).before args s = true) := by
  intro i hi
  rcases (show i = 0 ∨ i = 1 ∨ i = 2 ∨ i = 3 ∨ i = 4 ∨ i = 5 ∨ i = 6 ∨ i = 7 ∨ i = 8 ∨ i = 9 ∨ i = 10 by omega) with rfl | rfl | rfl | rfl | rfl | rfl | rfl | rfl | rfl | rfl | rfl
  · intro j hj hne; rcases (show j = 0 ∨ j = 1 ∨ j = 2 ∨ j = 3 ∨ j = 4 ∨ j = 5 ∨ j = 6 ∨ j = 7 ∨ j = 8 ∨ j = 9 ∨ j = 10 by omega) with rfl | rfl | rfl | rfl | rfl | rfl | rfl | rfl | rfl | rfl | rfl
    · exact absurd rfl hne
    · exact Or.inl (sw_go [true, false, false, false, true, false, true, false, false] _ _ hg rfl)
    · exact Or.inl (sw_go [true, false, true, false, true, false, true, false, false] _ _ hg rfl)
    · exact Or.inl (sw_go [true, false, false, true, false, false, true, true, false, true] _ _ hg rfl)
    · exact Or.inl (sw_go [true, false, false, true, false, false, false, false, false] _ _ hg rfl)
    · exact Or.inl (sw_go [true, false, false, true, false, true, true, false, true, false] _ _ hg rfl)
    · exact Or.inl (sw_go [true, false, false, true, true, false, true, true, false, false] _ _ hg rfl)
    · exact Or.inl (sw_go [true, false, false, true, true, true, true, true, true, true] _ _ hg rfl)
    · exact Or.inl (sw_go [true, false, false, false, true, true, false, false, true, false] _ _ hg rfl)
    · exact Or.inl (sw_go [true, false, true, true, false, false, false, false, true, false] _ _ hg rfl)
    · exact Or.inl (sw_go [true, false, true, false, false, false, true, true, false, true] _ _ hg rfl)
  · intro j hj hne; rcases (show j = 0 ∨ j = 1 ∨ j = 2 ∨ j = 3 ∨ j = 4 ∨ j = 5 ∨ j = 6 ∨ j = 7 ∨ j = 8 ∨ j = 9 ∨ j = 10 by omega) with rfl | rfl | rfl | rfl | rfl | rfl | rfl | rfl | rfl | rfl | rfl
    · exact Or.inr (sw_go [true, false, false, false, true, false, true, false, false] _ _ hg rfl)
    · exact absurd rfl hne
    · exact Or.inl (sw_go [true, false, true, false, true, false, true, false, true, false] _ _ hg rfl)
    · exact Or.inl (sw_go [true, false, false, true, false, false, true, true, true, false] _ _ hg rfl)
    · exact Or.inl (sw_go [true, false, false, true, false, false, false, false, true, false] _ _ hg rfl)
    · exact Or.inl (sw_go [true, false, false, true, false, true, true, false, true, true] _ _ hg rfl)
    · exact Or.inl (sw_go [true, false, false, true, true, false, true, true, false, true] _ _ hg rfl)
    · exact Or.inl (sw_go [true, false, true, false, false, false, false, false, false] _ _ hg rfl)
    · exact Or.inl (sw_go [true, false, false, false, true, true, false, false, true, true] _ _ hg rfl)
    · exact Or.inl (sw_go [true, false, true, true, false, false, false, false, true, true] _ _ hg rfl)
    · exact Or.inl (sw_go [true, false, true, false, false, false, true, true, true, false] _ _ hg rfl)
  · intro j hj hne; rcases (show j = 0 ∨ j = 1 ∨ j = 2 ∨ j = 3 ∨ j = 4 ∨ j = 5 ∨ j = 6 ∨ j = 7 ∨ j = 8 ∨ j = 9 ∨ j = 10 by omega) with rfl | rfl | rfl | rfl | rfl | rfl | rfl | rfl | rfl | rfl | rfl
    · exact Or.inr (sw_go [true, false, true, false, true, false, true, false, false] _ _ hg rfl)
    · exact Or.inr (sw_go [true, false, true, false, true, false, true, false, true, false] _ _ hg rfl)
    · exact absurd rfl hne
    · exact Or.inr (sw_go [true, false, true, false, true, false, true, true, false, true] _ _ hg rfl)
    · exact Or.inr (sw_go [true, false, true, false, true, false, true, true, false, false] _ _ hg rfl)
    · exact Or.inr (sw_go [true, false, true, false, true, false, true, true, true, false] _ _ hg rfl)
    · exact Or.inr (sw_go [true, false, true, false, true, false, true, true, true, true] _ _ hg rfl)
    · exact Or.inr (sw_go [true, false, true, false, true, true, false, false, false] _ _ hg rfl)
    · exact Or.inr (sw_go [true, false, true, false, true, false, true, false, true, true] _ _ hg rfl)
    · exact Or.inl (sw_go [true, false, true, true, false, false, true, true, false, true] _ _ hg rfl)
    · exact Or.inr (sw_go [true, false, true, false, true, true, false, false, true, false] _ _ hg rfl)
  · intro j hj hne; rcases (show j = 0 ∨ j = 1 ∨ j = 2 ∨ j = 3 ∨ j = 4 ∨ j = 5 ∨ j = 6 ∨ j = 7 ∨ j = 8 ∨ j = 9 ∨ j = 10 by omega) with rfl | rfl | rfl | rfl | rfl | rfl | rfl | rfl | rfl | rfl | rfl
    · exact Or.inr (sw_go [true, false, false, true, false, false, true, true, false, true] _ _ hg rfl)
    · exact Or.inr (sw_go [true, false, false, true, false, false, true, true, true, false] _ _ hg rfl)
    · exact Or.inl (sw_go [true, false, true, false, true, false, true, true, false, true] _ _ hg rfl)
    · exact absurd rfl hne
    · exact Or.inr (sw_go [true, false, false, true, false, true, false, false, false] _ _ hg rfl)
    · exact Or.inl (sw_go [true, false, false, true, false, true, true, true, true, false] _ _ hg rfl)
    · exact Or.inl (sw_go [true, false, false, true, true, true, false, false, false] _ _ hg rfl)
    · exact Or.inl (sw_go [true, false, true, false, false, false, false, true, false] _ _ hg rfl)
    · exact Or.inr (sw_go [true, false, false, true, false, false, true, true, true, true] _ _ hg rfl)
    · exact Or.inl (sw_go [true, false, true, true, false, false, false, true, true, true] _ _ hg rfl)
    · exact Or.inl (sw_go [true, false, true, false, false, true, false, false, true, false] _ _ hg rfl)
  · intro j hj hne; rcases (show j = 0 ∨ j = 1 ∨ j = 2 ∨ j = 3 ∨ j = 4 ∨ j = 5 ∨ j = 6 ∨ j = 7 ∨ j = 8 ∨ j = 9 ∨ j = 10 by omega) with rfl | rfl | rfl | rfl | rfl | rfl | rfl | rfl | rfl | rfl | rfl
    · exact Or.inr (sw_go [true, false, false, true, false, false, false, false, false] _ _ hg rfl)
    · exact Or.inr (sw_go [true, false, false, true, false, false, false, false, true, false] _ _ hg rfl)
    · exact Or.inl (sw_go [true, false, true, false, true, false, true, true, false, false] _ _ hg rfl)
    · exact Or.inl (sw_go [true, false, false, true, false, true, false, false, false] _ _ hg rfl)
    · exact absurd rfl hne
    · exact Or.inl (sw_go [true, false, false, true, false, true, true, true, false, true] _ _ hg rfl)
    · exact Or.inl (sw_go [true, false, false, true, true, false, true, true, true, true] _ _ hg rfl)
    · exact Or.inl (sw_go [true, false, true, false, false, false, false, false, true, true] _ _ hg rfl)
    · exact Or.inr (sw_go [true, false, false, true, false, false, false, false, true, true] _ _ hg rfl)
    · exact Or.inl (sw_go [true, false, true, true, false, false, false, true, true, false] _ _ hg rfl)
    · exact Or.inl (sw_go [true, false, true, false, false, true, false, false, false] _ _ hg rfl)
  · intro j hj hne; rcases (show j = 0 ∨ j = 1 ∨ j = 2 ∨ j = 3 ∨ j = 4 ∨ j = 5 ∨ j = 6 ∨ j = 7 ∨ j = 8 ∨ j = 9 ∨ j = 10 by omega) with rfl | rfl | rfl | rfl | rfl | rfl | rfl | rfl | rfl | rfl | rfl
    · exact Or.inr (sw_go [true, false, false, true, false, true, true, false, true, false] _ _ hg rfl)
    · exact Or.inr (sw_go [true, false, false, true, false, true, true, false, true, true] _ _ hg rfl)
    · exact Or.inl (sw_go [true, false, true, false, true, false, true, true, true, false] _ _ hg rfl)
    · exact Or.inr (sw_go [true, false, false, true, false, true, true, true, true, false] _ _ hg rfl)
    · exact Or.inr (sw_go [true, false, false, true, false, true, true, true, false, true] _ _ hg rfl)
    · exact absurd rfl hne
    · exact Or.inl (sw_go [true, false, false, true, true, true, false, false, true, false] _ _ hg rfl)
    · exact Or.inl (sw_go [true, false, true, false, false, false, false, true, true, false] _ _ hg rfl)
    · exact Or.inr (sw_go [true, false, false, true, false, true, true, true, false, false] _ _ hg rfl)
    · exact Or.inl (sw_go [true, false, true, true, false, false, true, false, false] _ _ hg rfl)
    · exact Or.inl (sw_go [true, false, true, false, false, true, false, false, true, true] _ _ hg rfl)
  · intro j hj hne; rcases (show j = 0 ∨ j = 1 ∨ j = 2 ∨ j = 3 ∨ j = 4 ∨ j = 5 ∨ j = 6 ∨ j = 7 ∨ j = 8 ∨ j = 9 ∨ j = 10 by omega) with rfl | rfl | rfl | rfl | rfl | rfl | rfl | rfl | rfl | rfl | rfl
    · exact Or.inr (sw_go [true, false, false, true, true, false, true, true, false, false] _ _ hg rfl)
    · exact Or.inr (sw_go [true, false, false, true, true, false, true, true, false, true] _ _ hg rfl)
    · exact Or.inl (sw_go [true, false, true, false, true, false, true, true, true, true] _ _ hg rfl)
    · exact Or.inr (sw_go [true, false, false, true, true, true, false, false, false] _ _ hg rfl)
    · exact Or.inr (sw_go [true, false, false, true, true, false, true, true, true, true] _ _ hg rfl)
    · exact Or.inr (sw_go [true, false, false, true, true, true, false, false, true, false] _ _ hg rfl)
    · exact absurd rfl hne
    · exact Or.inl (sw_go [true, false, true, false, false, false, false, true, true, true] _ _ hg rfl)
    · exact Or.inr (sw_go [true, false, false, true, true, false, true, true, true, false] _ _ hg rfl)
    · exact Or.inl (sw_go [true, false, true, true, false, false, true, false, true, false] _ _ hg rfl)
    · exact Or.inl (sw_go [true, false, true, false, false, true, false, true, false, false] _ _ hg rfl)
  · intro j hj hne; rcases (show j = 0 ∨ j = 1 ∨ j = 2 ∨ j = 3 ∨ j = 4 ∨ j = 5 ∨ j = 6 ∨ j = 7 ∨ j = 8 ∨ j = 9 ∨ j = 10 by omega) with rfl | rfl | rfl | rfl | rfl | rfl | rfl | rfl | rfl | rfl | rfl
    · exact Or.inr (sw_go [true, false, false, true, true, true, true, true, true, true] _ _ hg rfl)
    · exact Or.inr (sw_go [true, false, true, false, false, false, false, false, false] _ _ hg rfl)
    · exact Or.inl (sw_go [true, false, true, false, true, true, false, false, false] _ _ hg rfl)
    · exact Or.inr (sw_go [true, false, true, false, false, false, false, true, false] _ _ hg rfl)
    · exact Or.inr (sw_go [true, false, true, false, false, false, false, false, true, true] _ _ hg rfl)
    · exact Or.inr (sw_go [true, false, true, false, false, false, false, true, true, false] _ _ hg rfl)
    · exact Or.inr (sw_go [true, false, true, false, false, false, false, true, true, true] _ _ hg rfl)
    · exact absurd rfl hne
    · exact Or.inr (sw_go [true, false, true, false, false, false, false, false, true, false] _ _ hg rfl)
    · exact Or.inl (sw_go [true, false, true, true, false, false, true, false, true, true] _ _ hg rfl)
    · exact Or.inl (sw_go [true, false, true, false, false, true, false, true, false, true] _ _ hg rfl)
  · intro j hj hne; rcases (show j = 0 ∨ j = 1 ∨ j = 2 ∨ j = 3 ∨ j = 4 ∨ j = 5 ∨ j = 6 ∨ j = 7 ∨ j = 8 ∨ j = 9 ∨ j = 10 by omega) with rfl | rfl | rfl | rfl | rfl | rfl | rfl | rfl | rfl | rfl | rfl
    · exact Or.inr (sw_go [true, false, false, false, true, true, false, false, true, false] _ _ hg rfl)
    · exact Or.inr (sw_go [true, false, false, false, true, true, false, false, true, true] _ _ hg rfl)
    · exact Or.inl (sw_go [true, false, true, false, true, false, true, false, true, true] _ _ hg rfl)
    · exact Or.inl (sw_go [true, false, false, true, false, false, true, true, true, true] _ _ hg rfl)
    · exact Or.inl (sw_go [true, false, false, true, false, false, false, false, true, true] _ _ hg rfl)
    · exact Or.inl (sw_go [true, false, false, true, false, true, true, true, false, false] _ _ hg rfl)
    · exact Or.inl (sw_go [true, false, false, true, true, false, true, true, true, false] _ _ hg rfl)
    · exact Or.inl (sw_go [true, false, true, false, false, false, false, false, true, false] _ _ hg rfl)
    · exact absurd rfl hne
    · exact Or.inl (sw_go [true, false, true, true, false, false, false, true, false] _ _ hg rfl)
    · exact Or.inl (sw_go [true, false, true, false, false, false, true, true, true, true] _ _ hg rfl)
  · intro j hj hne; rcases (show j = 0 ∨ j = 1 ∨ j = 2 ∨ j = 3 ∨ j = 4 ∨ j = 5 ∨ j = 6 ∨ j = 7 ∨ j = 8 ∨ j = 9 ∨ j = 10 by omega) with rfl | rfl | rfl | rfl | rfl | rfl | rfl | rfl | rfl | rfl | rfl
    · exact Or.inr (sw_go [true, false, true, true, false, false, false, false, true, false] _ _ hg rfl)
    · exact Or.inr (sw_go [true, false, true, true, false, false, false, false, true, true] _ _ hg rfl)
    · exact Or.inr (sw_go [true, false, true, true, false, false, true, true, false, true] _ _ hg rfl)
    · exact Or.inr (sw_go [true, false, true, true, false, false, false, true, true, true] _ _ hg rfl)
    · exact Or.inr (sw_go [true, false, true, true, false, false, false, true, true, false] _ _ hg rfl)
    · exact Or.inr (sw_go [true, false, true, true, false, false, true, false, false] _ _ hg rfl)
    · exact Or.inr (sw_go [true, false, true, true, false, false, true, false, true, false] _ _ hg rfl)
    · exact Or.inr (sw_go [true, false, true, true, false, false, true, false, true, true] _ _ hg rfl)
    · exact Or.inr (sw_go [true, false, true, true, false, false, false, true, false] _ _ hg rfl)
    · exact absurd rfl hne
    · exact Or.inr (sw_go [true, false, true, true, false, false, true, true, false, false] _ _ hg rfl)
  · intro j hj hne; rcases (show j = 0 ∨ j = 1 ∨ j = 2 ∨ j = 3 ∨ j = 4 ∨ j = 5 ∨ j = 6 ∨ j = 7 ∨ j = 8 ∨ j = 9 ∨ j = 10 by omega) with rfl | rfl | rfl | rfl | rfl | rfl | rfl | rfl | rfl | rfl | rfl
    · exact Or.inr (sw_go [true, false, true, false, false, false, true, true, false, true] _ _ hg rfl)
    · exact Or.inr (sw_go [true, false, true, false, false, false, true, true, true, false] _ _ hg rfl)
    · exact Or.inl (sw_go [true, false, true, false, true, true, false, false, true, false] _ _ hg rfl)
    · exact Or.inr (sw_go [true, false, true, false, false, true, false, false, true, false] _ _ hg rfl)
    · exact Or.inr (sw_go [true, false, true, false, false, true, false, false, false] _ _ hg rfl)
    · exact Or.inr (sw_go [true, false, true, false, false, true, false, false, true, true] _ _ hg rfl)
    · exact Or.inr (sw_go [true, false, true, false, false, true, false, true, false, false] _ _ hg rfl)
    · exact Or.inr (sw_go [true, false, true, false, false, true, false, true, false, true] _ _ hg rfl)
    · exact Or.inr (sw_go [true, false, true, false, false, false, true, true, true, true] _ _ hg rfl)
    · exact Or.inl (sw_go [true, false, true, true, false, false, true, true, false, false] _ _ hg rfl)
    · exact absurd rfl hne
set_option maxRecDepth 100000 in
theorem sw_cs {args : Array Value} {s : State} (hg : (Jvm.Cond.and given_1 narrow_1).before args s = true) : (Cond.eq (.static "java/lang/String" "COMPACT_STRINGS" "Z") (.int 1)).before args s = true := sw_go [true, false, false, false, false, false, false, false, true, true] _ _ hg rfl
set_option maxRecDepth 100000 in
theorem sw_fm {args : Array Value} {s : State} (hg : (Jvm.Cond.and given_1 narrow_1).before args s = true) : (Cond.isRef (.static "jdk/internal/util/Preconditions" "SIOOBE_FORMATTER" "Ljava/util/function/BiFunction;")).before args s = true := sw_go [true, false, false, false, false, false, false, true, false] _ _ hg rfl
theorem sw_m1 {w : Cond} (h : w ∈ tables_1_1) : w ∈ tables_1 := List.mem_append_left _ h
theorem sw_m2 {w : Cond} (h : w ∈ tables_1_2) : w ∈ tables_1 := List.mem_append_right _ (List.mem_append_left _ h)
theorem sw_m3 {w : Cond} (h : w ∈ tables_1_3) : w ∈ tables_1 := List.mem_append_right _ (List.mem_append_right _ (List.mem_append_left _ h))
theorem sw_m4 {w : Cond} (h : w ∈ tables_1_4) : w ∈ tables_1 := List.mem_append_right _ (List.mem_append_right _ (List.mem_append_right _ h))
set_option maxRecDepth 100000 in
theorem sw_l1 : Cond.laysStatic "java/lang/String" "COMPACT_STRINGS" "Z" ∈ tables_1 := sw_m1 (List.mem_of_getElem? (i := 207) rfl)
set_option maxRecDepth 100000 in
theorem sw_l2 : Cond.laysStatic "jdk/internal/util/Preconditions" "SIOOBE_FORMATTER" "Ljava/util/function/BiFunction;" ∈ tables_1 := sw_m1 (List.mem_of_getElem? (i := 223) rfl)
set_option maxRecDepth 100000 in
theorem sw_i1 : Cond.initialized "java/lang/String" ∈ tables_1 := sw_m1 (List.mem_of_getElem? (i := 7) rfl)
set_option maxRecDepth 100000 in
theorem sw_i2 : Cond.initialized "jdk/internal/util/Preconditions" ∈ tables_1 := sw_m1 (List.mem_of_getElem? (i := 9) rfl)
set_option maxRecDepth 100000 in
theorem sw_n1 : Cond.methodLinkNest cn_V 9 yy_P_init cn_V ∈ tables_1 := sw_m1 (List.mem_of_getElem? (i := 23) rfl)
set_option maxRecDepth 100000 in
theorem sw_n2 : Cond.methodLinkNest cn_V 18 yy_R_init cn_V ∈ tables_1 := sw_m1 (List.mem_of_getElem? (i := 37) rfl)
set_option maxRecDepth 100000 in
theorem sw_sl {args : Array Value} {s : State} {adK : Nat → Nat} (hg : (Jvm.Cond.and given_1 narrow_1).before args s = true) (hts : ∀ w ∈ tables_1, w.before args s = true) (hev : ∀ i, i < 11 → (sw_t i).eval args s none [] s = some (.ref (adK i))) : ∀ q ∈ st_l, vk_R q.1 q.2.1 q.2.2.1 (adK q.2.2.2) s := by
  intro q hq
  simp only [st_l, List.mem_cons, List.not_mem_nil, or_false] at hq
  rcases hq with rfl | rfl | rfl | rfl | rfl | rfl | rfl | rfl | rfl | rfl | rfl | rfl | rfl | rfl | rfl | rfl | rfl | rfl | rfl | rfl | rfl
  · exact vk_R.of (A := args) (hts _ (sw_m2 (List.mem_of_getElem? (i := 180) rfl))) (va_eqR (t := sw_t 1) (sw_go [true, true, false, false, false, true, false, true, true, true] _ _ hg rfl) (hev 1 (by decide)))
  · exact vk_R.of (A := args) (hts _ (sw_m2 (List.mem_of_getElem? (i := 163) rfl))) (va_eqR (t := sw_t 0) (sw_go [true, false, true, true, true, false, false, false, true, true] _ _ hg rfl) (hev 0 (by decide)))
  · exact vk_R.of (A := args) (hts _ (sw_m2 (List.mem_of_getElem? (i := 175) rfl))) (va_eqR (t := sw_t 9) (sw_go [true, true, false, false, false, false, true, false, true, true] _ _ hg rfl) (hev 9 (by decide)))
  · exact vk_R.of (A := args) (hts _ (sw_m2 (List.mem_of_getElem? (i := 182) rfl))) (va_eqR (t := sw_t 8) (sw_go [true, true, false, false, true, true, false, false, false] _ _ hg rfl) (hev 8 (by decide)))
  · exact vk_R.of (A := args) (hts _ (sw_m2 (List.mem_of_getElem? (i := 193) rfl))) (va_eqR (t := sw_t 2) (sw_go [true, true, false, true, false, true, true, false, true, true] _ _ hg rfl) (hev 2 (by decide)))
  · exact vk_R.of (A := args) (hts _ (sw_m2 (List.mem_of_getElem? (i := 204) rfl))) (va_eqR (t := sw_t 3) (sw_go [true, true, false, true, true, false, true, true, true, false] _ _ hg rfl) (hev 3 (by decide)))
  · exact vk_R.of (A := args) (hts _ (sw_m2 (List.mem_of_getElem? (i := 205) rfl))) (va_eqR (t := sw_t 6) (sw_go [true, true, true, false, false, true, false, false, false] _ _ hg rfl) (hev 6 (by decide)))
  · exact vk_R.of (A := args) (hts _ (sw_m2 (List.mem_of_getElem? (i := 211) rfl))) (va_eqR (t := sw_t 4) (sw_go [true, true, true, true, false, false, true, false, true, true] _ _ hg rfl) (hev 4 (by decide)))
  · exact vk_R.of (A := args) (hts _ (sw_m2 (List.mem_of_getElem? (i := 212) rfl))) (va_eqR (t := sw_t 7) (sw_go [true, true, true, true, true, true, false, false, true, false] _ _ hg rfl) (hev 7 (by decide)))
  · exact vk_R.of (A := args) (hts _ (sw_m2 (List.mem_of_getElem? (i := 210) rfl))) (va_eqR (t := sw_t 5) (sw_go [true, true, true, false, true, false, true, false, true, true] _ _ hg rfl) (hev 5 (by decide)))
  · exact vk_R.of (A := args) (hts _ (sw_m2 (List.mem_of_getElem? (i := 32) rfl))) (hev 1 (by decide))
  · exact vk_R.of (A := args) (hts _ (sw_m1 (List.mem_of_getElem? (i := 193) rfl))) (hev 0 (by decide))
  · exact vk_R.of (A := args) (hts _ (sw_m2 (List.mem_of_getElem? (i := 97) rfl))) (hev 9 (by decide))
  · exact vk_R.of (A := args) (hts _ (sw_m2 (List.mem_of_getElem? (i := 34) rfl))) (hev 8 (by decide))
  · exact vk_R.of (A := args) (hts _ (sw_m2 (List.mem_of_getElem? (i := 84) rfl))) (hev 2 (by decide))
  · exact vk_R.of (A := args) (hts _ (sw_m2 (List.mem_of_getElem? (i := 62) rfl))) (hev 5 (by decide))
  · exact vk_R.of (A := args) (hts _ (sw_m2 (List.mem_of_getElem? (i := 56) rfl))) (hev 4 (by decide))
  · exact vk_R.of (A := args) (hts _ (sw_m2 (List.mem_of_getElem? (i := 57) rfl))) (hev 3 (by decide))
  · exact vk_R.of (A := args) (hts _ (sw_m2 (List.mem_of_getElem? (i := 73) rfl))) (hev 6 (by decide))
  · exact vk_R.of (A := args) (hts _ (sw_m2 (List.mem_of_getElem? (i := 74) rfl))) (hev 7 (by decide))
  · exact vk_R.of (A := args) (hts _ (sw_m2 (List.mem_of_getElem? (i := 75) rfl))) (hev 10 (by decide))
theorem sw_K {s : State} {b : Nat} {A : Nat → Prop} (hgv : (Jvm.Cond.and given_1 narrow_1).before #[Value.ref b] s = true) (hts : ∀ w ∈ tables_1, w.before #[Value.ref b] s = true) (hA : ∀ a : Nat, a < s.heap.size → ¬ A a) : ∃ adK adV : Nat → Nat, sK_ adK adV A s := by
  obtain ⟨adK, adV, hk, hev⟩ := vk_Sof (N := 11) (tm := sw_t) (len := st_len) (byt := st_byt) (A := A) (args := #[Value.ref b]) (s := s) (by decide +kernel) (sw_ex hgv) (sw_co hgv) (sw_ar hgv) (sw_le hgv) (sw_el hgv) (fun i j hi hj hne => sw_ne hgv i hi j hj hne) hA
  exact ⟨adK, adV, va_Zof (hts _ sw_l1) (hts _ sw_i1) (va_eqv (sw_cs hgv) rfl) hA, va_Zqof (hts _ sw_l2) (hts _ sw_i2) (sw_fm hgv) hA, hk, sw_sl hgv hts hev⟩
theorem sw_arr {args : Array Value} {s : State} {ty : FieldType} (h : (Cond.arrayClass ty).before args s = true) : ∃ cA : ClassId, ArrOfT s cA ty ∧ s.vm.findClass ("[" ++ ty.toString) = some cA := by
  obtain ⟨c, k, comp, h1, h2, h3⟩ := Cond.arrayClass_spec h
  exact ⟨c, fun n z => ⟨fun k h => (by cases h), k, h2, comp, h3⟩, h1⟩
set_option maxHeartbeats 400000000 in
set_option maxRecDepth 100000 in
theorem whole_open {p : Program} {e : Env} {s : State} {m : MethodId} {below : List Frame} {meth : Method} {c : Code} (l : Launch) {b L : Nat} {xs : Nat → Int32} (hL : L ≤ 1536) (C0 : lw_At p s m meth c b L xs) (hF : fn_L_law L xs = some 1) : W p l e room_1 s m #[Value.ref b] below meth c s.heap [] 0 0 (lw_Z below #[Value.ref b] s) (entryFrame m ([Value.ref b] : List Value).toArray 4) := by
  obtain ⟨hx, hb, hr, hml, hown, hts, hX, hbl, hlocks, hgv⟩ := id C0
  have ht : ∀ w ∈ TB_, w.before #[Value.ref b] s = true := fun w h => hts w (List.mem_filter.mp h).1
  obtain ⟨A, hAe⟩ : ∃ A : Nat → Prop, A = fun q : Nat => s.heap.size ≤ q := ⟨_, rfl⟩
  have hA : ∀ q : Nat, s.heap.size ≤ q → A q := fun q h => by rw [hAe]; exact h
  have hbA : ¬ A b := by rw [hAe]; exact Nat.not_le.mpr hbl
  have hts1 : ∀ w ∈ tables_1, w.before #[Value.ref b] s = true := fun w h => hts w (List.mem_append_right _ h)
  obtain ⟨adK, adV, hV⟩ := sw_K (A := A) hgv hts1 (fun a h => by rw [hAe]; exact Nat.not_le.mpr h)
  have hN1 : va_Nw (.methodLinkNest cn_V 9 yy_P_init cn_V) s := va_Nw.of rfl (hts1 _ sw_n1)
  have hN2 : va_Nw (.methodLinkNest cn_V 18 yy_R_init cn_V) s := va_Nw.of rfl (hts1 _ sw_n2)
  obtain ⟨c0, iS0, hKn0⟩ := u_known (C := cn_R) (T := tt_R) (N := 7) (n := 7) ht in_R (ht _ tw_1_36)
  obtain ⟨c1, iS1, hKn1⟩ := u_known (C := cn_P) (T := tt_P) (N := 2) (n := 2) ht in_P (ht _ tw_1_22)
  obtain ⟨c2, iS2, hKn2⟩ := u_known (C := cn_W) (T := tt_W) (N := 2) (n := 2) ht in_W (ht _ tw_1_173)
  obtain ⟨c3, iS3, hKn3⟩ := u_known (C := cn_C) (T := tt_C) (N := 4) (n := 4) ht in_C (ht _ tw_2_114)
  obtain ⟨c4, iS4, hKn4⟩ := u_known (C := cn_E) (T := tt_E) (N := 3) (n := 3) ht in_E (ht _ tw_2_108)
  obtain ⟨c5, iS5, hKn5⟩ := u_known (C := cn_V) (T := tt_V) (N := 4) (n := 4) ht in_V (ht _ tw_1_14)
  obtain ⟨c6, iS6, hKn6⟩ := u_known (C := cn_M) (T := tt_M) (N := 17) (n := 17) ht in_M (ht _ tw_3_36)
  obtain ⟨dC, dI, hKc⟩ : ∃ (dC : Nat → ClassId) (dI : Nat → Nat → Nat), ∀ (k : Nat) (q : vw_C), vwCl[k]? = some q → u_Kn s q.1 q.2.1 q.2.2 (dC k) (dI k) := by
    refine ⟨fun k => if k = 0 then c0 else if k = 1 then c1 else if k = 2 then c2 else if k = 3 then c3 else if k = 4 then c4 else if k = 5 then c5 else c6, fun k => if k = 0 then iS0 else if k = 1 then iS1 else if k = 2 then iS2 else if k = 3 then iS3 else if k = 4 then iS4 else if k = 5 then iS5 else iS6, ?_⟩
    intro k q hq
    match k, hq with
    | 0, hq => cases hq; exact hKn0
    | 1, hq => cases hq; exact hKn1
    | 2, hq => cases hq; exact hKn2
    | 3, hq => cases hq; exact hKn3
    | 4, hq => cases hq; exact hKn4
    | 5, hq => cases hq; exact hKn5
    | 6, hq => cases hq; exact hKn6
    | k + 7, hq => simp [vwCl] at hq
  obtain ⟨cI, acI, fcI⟩ := sw_arr (ty := .int) (ht _ tw_1_63)
  obtain ⟨cL, acL, fcL⟩ := sw_arr (ty := .long) (ht _ tw_1_64)
  obtain ⟨cC, acC, fcC⟩ := sw_arr (ty := .char) (ht _ tw_1_34)
  obtain ⟨cZ, acZ, fcZ⟩ := sw_arr (ty := .boolean) (ht _ tw_3_93)
  have hK : va_K (dC, dI) vwCl (tk_ cI cL cC cZ) s := by
    refine ⟨hKc, fun k q hq => ?_⟩
    match k, hq with
    | 0, hq => cases hq; exact ⟨acI, fcI⟩
    | 1, hq => cases hq; exact ⟨acL, fcL⟩
    | 2, hq => cases hq; exact ⟨acC, fcC⟩
    | 3, hq => cases hq; exact ⟨acZ, fcZ⟩
    | k + 4, hq => simp at hq
  have hS : va_S A s.heap s.heap [] := va_S.rf
  have hP : va_P (dC, dI) vwCl [] s.heap := fun k q h => by simp at h
  have hD : va_D A [] := ⟨fun i j p q h => by simp at h, fun k q h => by simp at h⟩
  have hl := lv_entry ([.ref b]) (n := 4) (Nat.le_of_ble_eq_true rfl)
  rw [lg_entry_eq]
  generalize (lg_sl ([.ref b]) ++ List.replicate (4 - (lg_sl ([.ref b])).length) Slot.unset).toArray = ls at hl ⊢
  have hl : lv_has ls 4 [(0, .ref b)] := hl
  unfold fn_L_law at hF
  refine va_new (ci := 5) (fs := [.null, .null, .null, .long 0]) (C := cn_V) (T := tt_V) (N := 4) hx hb ht in_V ty_V tyok_V hown (ht _ tw_1_13) (ht _ tw_1_14) (ht _ tw_1_1) hK hP hD hS hA rfl (fun j hj => by rcases (show j = 0 ∨ j = 1 ∨ j = 2 ∨ j = 3 by omega) with rfl | rfl | rfl | rfl <;> rfl) (Nat.le_of_ble_eq_true rfl) (Nat.le_of_ble_eq_true rfl) dd_L_law_0 (fun q_219 H_220 hP hD hS => ?_)
  have hP : va_P (dC, dI) vwCl [(q_219, .inr (5, [.null, .null, .null, .long 0]))] H_220 := hP
  have hD : va_D A [(q_219, .inr (5, [.null, .null, .null, .long 0]))] := hD
  refine lv_dup hx hb dd_L_law_3 rfl ?_
  obtain ⟨o_4, ho_4, hF⟩ := jv_bi hF
  refine jv_mu (wr := []) (wu := fun u_223 : Nat × Nat × Nat × Nat × Nat × Nat × Nat × Nat × Nat × Nat × Nat × Nat => [(q_219, .inr (5, [.ref u_223.1, .ref u_223.2.2.1, .ref u_223.2.2.2.2.2.2.2.1, .long o_4.1])), (u_223.1, .inr (1, [.ref u_223.2.1, .int o_4.2.1])), (u_223.2.1, .inl (cC, 3000, .inl o_4.2.2.1)), (u_223.2.2.1, .inr (0, [.ref u_223.2.2.2.1, .ref u_223.2.2.2.2.1, .ref u_223.2.2.2.2.2.1, .ref u_223.2.2.2.2.2.2.1, .int o_4.2.2.2.1, .int o_4.2.2.2.2.1, .int o_4.2.2.2.2.2.1])), (u_223.2.2.2.1, .inl (cI, 24, .inl o_4.2.2.2.2.2.2.1)), (u_223.2.2.2.2.1, .inl (cI, 24, .inl o_4.2.2.2.2.2.2.2.1)), (u_223.2.2.2.2.2.1, .inl (cI, 24, .inl o_4.2.2.2.2.2.2.2.2.1)), (u_223.2.2.2.2.2.2.1, .inl (cL, 24, .inr (.inl o_4.2.2.2.2.2.2.2.2.2.1))), (u_223.2.2.2.2.2.2.2.1, .inr (0, [.ref u_223.2.2.2.2.2.2.2.2.1, .ref u_223.2.2.2.2.2.2.2.2.2.1, .ref u_223.2.2.2.2.2.2.2.2.2.2.1, .ref u_223.2.2.2.2.2.2.2.2.2.2.2, .int o_4.2.2.2.2.2.2.2.2.2.2.1, .int o_4.2.2.2.2.2.2.2.2.2.2.2.1, .int o_4.2.2.2.2.2.2.2.2.2.2.2.2.1])), (u_223.2.2.2.2.2.2.2.2.1, .inl (cI, 24, .inl o_4.2.2.2.2.2.2.2.2.2.2.2.2.2.1)), (u_223.2.2.2.2.2.2.2.2.2.1, .inl (cI, 24, .inl o_4.2.2.2.2.2.2.2.2.2.2.2.2.2.2.1)), (u_223.2.2.2.2.2.2.2.2.2.2.1, .inl (cI, 24, .inl o_4.2.2.2.2.2.2.2.2.2.2.2.2.2.2.2.1)), (u_223.2.2.2.2.2.2.2.2.2.2.2, .inl (cL, 24, .inr (.inl o_4.2.2.2.2.2.2.2.2.2.2.2.2.2.2.2.2)))]) (va_runI (As := []) (rest := [.ref q_219]) ⟨hx, hb, hml, hown, ht⟩ (c_V_init l dC dI cI cL cC cZ q_219 H_220.size _ ho_4) (cwI 0 ht (gi_I tw_1_17) rfl rfl rfl (ht _ tw_1_1) (ht _ tw_1_15) (ht _ tw_1_16) rfl (by decide +kernel) ⟨Nat.le_of_ble_eq_true rfl, Nat.le_of_ble_eq_true rfl⟩) (jv_psN hK hP hD hN1 hN2 [0] rfl (by decide) rfl) rfl rfl hl.1 rfl (lv_room (Nat.le_of_ble_eq_true rfl)) dd_L_law_4 ⟨Nat.le_of_ble_eq_true rfl, Nat.le_of_ble_eq_true rfl⟩) hP hD hS hA [0] [] rfl rfl (by decide) (by decide) (fun u_223 H_221 locs_222 hP hD hS => ?_)
  obtain ⟨q_219_0, q_219_1, q_219_2, q_219_3, q_219_4, q_219_5, q_219_6, q_219_7, q_219_8, q_219_9, q_219_10, q_219_11⟩ := u_223
  have hP : va_P (dC, dI) vwCl [(q_219, .inr (5, [.ref q_219_0, .ref q_219_2, .ref q_219_7, .long o_4.1])), (q_219_0, .inr (1, [.ref q_219_1, .int o_4.2.1])), (q_219_1, .inl (cC, 3000, .inl o_4.2.2.1)), (q_219_2, .inr (0, [.ref q_219_3, .ref q_219_4, .ref q_219_5, .ref q_219_6, .int o_4.2.2.2.1, .int o_4.2.2.2.2.1, .int o_4.2.2.2.2.2.1])), (q_219_3, .inl (cI, 24, .inl o_4.2.2.2.2.2.2.1)), (q_219_4, .inl (cI, 24, .inl o_4.2.2.2.2.2.2.2.1)), (q_219_5, .inl (cI, 24, .inl o_4.2.2.2.2.2.2.2.2.1)), (q_219_6, .inl (cL, 24, .inr (.inl o_4.2.2.2.2.2.2.2.2.2.1))), (q_219_7, .inr (0, [.ref q_219_8, .ref q_219_9, .ref q_219_10, .ref q_219_11, .int o_4.2.2.2.2.2.2.2.2.2.2.1, .int o_4.2.2.2.2.2.2.2.2.2.2.2.1, .int o_4.2.2.2.2.2.2.2.2.2.2.2.2.1])), (q_219_8, .inl (cI, 24, .inl o_4.2.2.2.2.2.2.2.2.2.2.2.2.2.1)), (q_219_9, .inl (cI, 24, .inl o_4.2.2.2.2.2.2.2.2.2.2.2.2.2.2.1)), (q_219_10, .inl (cI, 24, .inl o_4.2.2.2.2.2.2.2.2.2.2.2.2.2.2.2.1)), (q_219_11, .inl (cL, 24, .inr (.inl o_4.2.2.2.2.2.2.2.2.2.2.2.2.2.2.2.2)))] H_221 := hP.sub [0, 1, 2, 3, 4, 5, 6, 7, 8, 9, 10, 11, 12] rfl
  have hD : va_D A [(q_219, .inr (5, [.ref q_219_0, .ref q_219_2, .ref q_219_7, .long o_4.1])), (q_219_0, .inr (1, [.ref q_219_1, .int o_4.2.1])), (q_219_1, .inl (cC, 3000, .inl o_4.2.2.1)), (q_219_2, .inr (0, [.ref q_219_3, .ref q_219_4, .ref q_219_5, .ref q_219_6, .int o_4.2.2.2.1, .int o_4.2.2.2.2.1, .int o_4.2.2.2.2.2.1])), (q_219_3, .inl (cI, 24, .inl o_4.2.2.2.2.2.2.1)), (q_219_4, .inl (cI, 24, .inl o_4.2.2.2.2.2.2.2.1)), (q_219_5, .inl (cI, 24, .inl o_4.2.2.2.2.2.2.2.2.1)), (q_219_6, .inl (cL, 24, .inr (.inl o_4.2.2.2.2.2.2.2.2.2.1))), (q_219_7, .inr (0, [.ref q_219_8, .ref q_219_9, .ref q_219_10, .ref q_219_11, .int o_4.2.2.2.2.2.2.2.2.2.2.1, .int o_4.2.2.2.2.2.2.2.2.2.2.2.1, .int o_4.2.2.2.2.2.2.2.2.2.2.2.2.1])), (q_219_8, .inl (cI, 24, .inl o_4.2.2.2.2.2.2.2.2.2.2.2.2.2.1)), (q_219_9, .inl (cI, 24, .inl o_4.2.2.2.2.2.2.2.2.2.2.2.2.2.2.1)), (q_219_10, .inl (cI, 24, .inl o_4.2.2.2.2.2.2.2.2.2.2.2.2.2.2.2.1)), (q_219_11, .inl (cL, 24, .inr (.inl o_4.2.2.2.2.2.2.2.2.2.2.2.2.2.2.2.2)))] := hD.sub [0, 1, 2, 3, 4, 5, 6, 7, 8, 9, 10, 11, 12] (by decide) rfl
  refine lv_astore_n (lv' := [(1, .ref q_219), (0, .ref b)]) hx hb dd_L_law_7 rfl hl (by decide) rfl (fun ls hl => ?_)
  refine va_new (ci := 6) (fs := [.int 0, .null, .null, .null, .null, .null, .null, .null, .int 0, .null, .int 0, .int 0, .int 0, .int 0, .int 0, .int 0, .null]) (C := cn_M) (T := tt_M) (N := 17) hx hb ht in_M ty_M tyok_M hown (ht _ tw_3_35) (ht _ tw_3_36) (ht _ tw_1_4) hK hP hD hS hA rfl (fun j hj => by rcases (show j = 0 ∨ j = 1 ∨ j = 2 ∨ j = 3 ∨ j = 4 ∨ j = 5 ∨ j = 6 ∨ j = 7 ∨ j = 8 ∨ j = 9 ∨ j = 10 ∨ j = 11 ∨ j = 12 ∨ j = 13 ∨ j = 14 ∨ j = 15 ∨ j = 16 by omega) with rfl | rfl | rfl | rfl | rfl | rfl | rfl | rfl | rfl | rfl | rfl | rfl | rfl | rfl | rfl | rfl | rfl <;> rfl) (Nat.le_of_ble_eq_true rfl) (Nat.le_of_ble_eq_true rfl) dd_L_law_8 (fun q_224 H_225 hP hD hS => ?_)
  have hP : va_P (dC, dI) vwCl [(q_219, .inr (5, [.ref q_219_0, .ref q_219_2, .ref q_219_7, .long o_4.1])), (q_219_0, .inr (1, [.ref q_219_1, .int o_4.2.1])), (q_219_1, .inl (cC, 3000, .inl o_4.2.2.1)), (q_219_2, .inr (0, [.ref q_219_3, .ref q_219_4, .ref q_219_5, .ref q_219_6, .int o_4.2.2.2.1, .int o_4.2.2.2.2.1, .int o_4.2.2.2.2.2.1])), (q_219_3, .inl (cI, 24, .inl o_4.2.2.2.2.2.2.1)), (q_219_4, .inl (cI, 24, .inl o_4.2.2.2.2.2.2.2.1)), (q_219_5, .inl (cI, 24, .inl o_4.2.2.2.2.2.2.2.2.1)), (q_219_6, .inl (cL, 24, .inr (.inl o_4.2.2.2.2.2.2.2.2.2.1))), (q_219_7, .inr (0, [.ref q_219_8, .ref q_219_9, .ref q_219_10, .ref q_219_11, .int o_4.2.2.2.2.2.2.2.2.2.2.1, .int o_4.2.2.2.2.2.2.2.2.2.2.2.1, .int o_4.2.2.2.2.2.2.2.2.2.2.2.2.1])), (q_219_8, .inl (cI, 24, .inl o_4.2.2.2.2.2.2.2.2.2.2.2.2.2.1)), (q_219_9, .inl (cI, 24, .inl o_4.2.2.2.2.2.2.2.2.2.2.2.2.2.2.1)), (q_219_10, .inl (cI, 24, .inl o_4.2.2.2.2.2.2.2.2.2.2.2.2.2.2.2.1)), (q_219_11, .inl (cL, 24, .inr (.inl o_4.2.2.2.2.2.2.2.2.2.2.2.2.2.2.2.2))), (q_224, .inr (6, [.int 0, .null, .null, .null, .null, .null, .null, .null, .int 0, .null, .int 0, .int 0, .int 0, .int 0, .int 0, .int 0, .null]))] H_225 := hP
  have hD : va_D A [(q_219, .inr (5, [.ref q_219_0, .ref q_219_2, .ref q_219_7, .long o_4.1])), (q_219_0, .inr (1, [.ref q_219_1, .int o_4.2.1])), (q_219_1, .inl (cC, 3000, .inl o_4.2.2.1)), (q_219_2, .inr (0, [.ref q_219_3, .ref q_219_4, .ref q_219_5, .ref q_219_6, .int o_4.2.2.2.1, .int o_4.2.2.2.2.1, .int o_4.2.2.2.2.2.1])), (q_219_3, .inl (cI, 24, .inl o_4.2.2.2.2.2.2.1)), (q_219_4, .inl (cI, 24, .inl o_4.2.2.2.2.2.2.2.1)), (q_219_5, .inl (cI, 24, .inl o_4.2.2.2.2.2.2.2.2.1)), (q_219_6, .inl (cL, 24, .inr (.inl o_4.2.2.2.2.2.2.2.2.2.1))), (q_219_7, .inr (0, [.ref q_219_8, .ref q_219_9, .ref q_219_10, .ref q_219_11, .int o_4.2.2.2.2.2.2.2.2.2.2.1, .int o_4.2.2.2.2.2.2.2.2.2.2.2.1, .int o_4.2.2.2.2.2.2.2.2.2.2.2.2.1])), (q_219_8, .inl (cI, 24, .inl o_4.2.2.2.2.2.2.2.2.2.2.2.2.2.1)), (q_219_9, .inl (cI, 24, .inl o_4.2.2.2.2.2.2.2.2.2.2.2.2.2.2.1)), (q_219_10, .inl (cI, 24, .inl o_4.2.2.2.2.2.2.2.2.2.2.2.2.2.2.2.1)), (q_219_11, .inl (cL, 24, .inr (.inl o_4.2.2.2.2.2.2.2.2.2.2.2.2.2.2.2.2))), (q_224, .inr (6, [.int 0, .null, .null, .null, .null, .null, .null, .null, .int 0, .null, .int 0, .int 0, .int 0, .int 0, .int 0, .int 0, .null]))] := hD
  refine lv_dup hx hb dd_L_law_11 rfl ?_
  obtain ⟨o_12, ho_12, hF⟩ := jv_bi hF
  refine jv_mu (wr := [(q_219, .inr (5, [.ref q_219_0, .ref q_219_2, .ref q_219_7, .long o_4.1])), (q_219_0, .inr (1, [.ref q_219_1, .int o_4.2.1])), (q_219_1, .inl (cC, 3000, .inl o_4.2.2.1)), (q_219_2, .inr (0, [.ref q_219_3, .ref q_219_4, .ref q_219_5, .ref q_219_6, .int o_4.2.2.2.1, .int o_4.2.2.2.2.1, .int o_4.2.2.2.2.2.1])), (q_219_3, .inl (cI, 24, .inl o_4.2.2.2.2.2.2.1)), (q_219_4, .inl (cI, 24, .inl o_4.2.2.2.2.2.2.2.1)), (q_219_5, .inl (cI, 24, .inl o_4.2.2.2.2.2.2.2.2.1)), (q_219_6, .inl (cL, 24, .inr (.inl o_4.2.2.2.2.2.2.2.2.2.1))), (q_219_7, .inr (0, [.ref q_219_8, .ref q_219_9, .ref q_219_10, .ref q_219_11, .int o_4.2.2.2.2.2.2.2.2.2.2.1, .int o_4.2.2.2.2.2.2.2.2.2.2.2.1, .int o_4.2.2.2.2.2.2.2.2.2.2.2.2.1])), (q_219_8, .inl (cI, 24, .inl o_4.2.2.2.2.2.2.2.2.2.2.2.2.2.1)), (q_219_9, .inl (cI, 24, .inl o_4.2.2.2.2.2.2.2.2.2.2.2.2.2.2.1)), (q_219_10, .inl (cI, 24, .inl o_4.2.2.2.2.2.2.2.2.2.2.2.2.2.2.2.1)), (q_219_11, .inl (cL, 24, .inr (.inl o_4.2.2.2.2.2.2.2.2.2.2.2.2.2.2.2.2)))]) (wu := fun u_228 : Nat × Nat × Nat × Nat × Nat × Nat × Nat × Nat × Nat => [(q_224, .inr (6, [.int o_12.1, .ref u_228.1, .ref u_228.2.1, .ref u_228.2.2.1, .ref u_228.2.2.2.1, .ref u_228.2.2.2.2.1, .ref u_228.2.2.2.2.2.1, .ref u_228.2.2.2.2.2.2.1, .int o_12.2.1, .ref u_228.2.2.2.2.2.2.2.1, .int o_12.2.2.1, .int o_12.2.2.2.1, .int o_12.2.2.2.2.1, .int o_12.2.2.2.2.2.1, .int o_12.2.2.2.2.2.2.1, .int o_12.2.2.2.2.2.2.2.1, .ref u_228.2.2.2.2.2.2.2.2])), (u_228.1, .inl (cC, 6, .inl o_12.2.2.2.2.2.2.2.2.1)), (u_228.2.1, .inl (cI, 2, .inl o_12.2.2.2.2.2.2.2.2.2.1)), (u_228.2.2.1, .inl (cI, 48, .inl o_12.2.2.2.2.2.2.2.2.2.2.1)), (u_228.2.2.2.1, .inl (cI, 48, .inl o_12.2.2.2.2.2.2.2.2.2.2.2.1)), (u_228.2.2.2.2.1, .inl (cZ, 48, .inl o_12.2.2.2.2.2.2.2.2.2.2.2.2.1)), (u_228.2.2.2.2.2.1, .inl (cI, 48, .inl o_12.2.2.2.2.2.2.2.2.2.2.2.2.2.1)), (u_228.2.2.2.2.2.2.1, .inl (cC, 288, .inl o_12.2.2.2.2.2.2.2.2.2.2.2.2.2.2.1)), (u_228.2.2.2.2.2.2.2.1, .inl (cC, 3000, .inl o_12.2.2.2.2.2.2.2.2.2.2.2.2.2.2.2.1)), (u_228.2.2.2.2.2.2.2.2, .inl (cC, 6, .inl o_12.2.2.2.2.2.2.2.2.2.2.2.2.2.2.2.2))]) (va_runI (As := []) (rest := [.ref q_224]) ⟨hx, hb, hml, hown, ht⟩ (c_M_init l dC dI cI cL cC cZ q_224 H_225.size _ ho_12) (cwI 0 ht (gi_I tw_3_39) rfl rfl rfl (ht _ tw_1_4) (ht _ tw_3_37) (ht _ tw_3_38) rfl (by decide +kernel) ⟨Nat.le_of_ble_eq_true rfl, Nat.le_of_ble_eq_true rfl⟩) (jv_ps hK hP hD [13] rfl (by decide) rfl) rfl rfl hl.1 rfl (lv_room (Nat.le_of_ble_eq_true rfl)) dd_L_law_12 ⟨Nat.le_of_ble_eq_true rfl, Nat.le_of_ble_eq_true rfl⟩) hP hD hS hA [13] [0, 1, 2, 3, 4, 5, 6, 7, 8, 9, 10, 11, 12] rfl rfl (by decide) (by decide) (fun u_228 H_226 locs_227 hP hD hS => ?_)
  obtain ⟨q_224_0, q_224_1, q_224_2, q_224_3, q_224_4, q_224_5, q_224_6, q_224_7, q_224_8⟩ := u_228
  have hP : va_P (dC, dI) vwCl [(q_219, .inr (5, [.ref q_219_0, .ref q_219_2, .ref q_219_7, .long o_4.1])), (q_219_0, .inr (1, [.ref q_219_1, .int o_4.2.1])), (q_219_1, .inl (cC, 3000, .inl o_4.2.2.1)), (q_219_2, .inr (0, [.ref q_219_3, .ref q_219_4, .ref q_219_5, .ref q_219_6, .int o_4.2.2.2.1, .int o_4.2.2.2.2.1, .int o_4.2.2.2.2.2.1])), (q_219_3, .inl (cI, 24, .inl o_4.2.2.2.2.2.2.1)), (q_219_4, .inl (cI, 24, .inl o_4.2.2.2.2.2.2.2.1)), (q_219_5, .inl (cI, 24, .inl o_4.2.2.2.2.2.2.2.2.1)), (q_219_6, .inl (cL, 24, .inr (.inl o_4.2.2.2.2.2.2.2.2.2.1))), (q_219_7, .inr (0, [.ref q_219_8, .ref q_219_9, .ref q_219_10, .ref q_219_11, .int o_4.2.2.2.2.2.2.2.2.2.2.1, .int o_4.2.2.2.2.2.2.2.2.2.2.2.1, .int o_4.2.2.2.2.2.2.2.2.2.2.2.2.1])), (q_219_8, .inl (cI, 24, .inl o_4.2.2.2.2.2.2.2.2.2.2.2.2.2.1)), (q_219_9, .inl (cI, 24, .inl o_4.2.2.2.2.2.2.2.2.2.2.2.2.2.2.1)), (q_219_10, .inl (cI, 24, .inl o_4.2.2.2.2.2.2.2.2.2.2.2.2.2.2.2.1)), (q_219_11, .inl (cL, 24, .inr (.inl o_4.2.2.2.2.2.2.2.2.2.2.2.2.2.2.2.2))), (q_224, .inr (6, [.int o_12.1, .ref q_224_0, .ref q_224_1, .ref q_224_2, .ref q_224_3, .ref q_224_4, .ref q_224_5, .ref q_224_6, .int o_12.2.1, .ref q_224_7, .int o_12.2.2.1, .int o_12.2.2.2.1, .int o_12.2.2.2.2.1, .int o_12.2.2.2.2.2.1, .int o_12.2.2.2.2.2.2.1, .int o_12.2.2.2.2.2.2.2.1, .ref q_224_8])), (q_224_0, .inl (cC, 6, .inl o_12.2.2.2.2.2.2.2.2.1)), (q_224_1, .inl (cI, 2, .inl o_12.2.2.2.2.2.2.2.2.2.1)), (q_224_2, .inl (cI, 48, .inl o_12.2.2.2.2.2.2.2.2.2.2.1)), (q_224_3, .inl (cI, 48, .inl o_12.2.2.2.2.2.2.2.2.2.2.2.1)), (q_224_4, .inl (cZ, 48, .inl o_12.2.2.2.2.2.2.2.2.2.2.2.2.1)), (q_224_5, .inl (cI, 48, .inl o_12.2.2.2.2.2.2.2.2.2.2.2.2.2.1)), (q_224_6, .inl (cC, 288, .inl o_12.2.2.2.2.2.2.2.2.2.2.2.2.2.2.1)), (q_224_7, .inl (cC, 3000, .inl o_12.2.2.2.2.2.2.2.2.2.2.2.2.2.2.2.1)), (q_224_8, .inl (cC, 6, .inl o_12.2.2.2.2.2.2.2.2.2.2.2.2.2.2.2.2))] H_226 := hP.sub [0, 1, 2, 3, 4, 5, 6, 7, 8, 9, 10, 11, 12, 13, 14, 15, 16, 17, 18, 19, 20, 21, 22] rfl
  have hD : va_D A [(q_219, .inr (5, [.ref q_219_0, .ref q_219_2, .ref q_219_7, .long o_4.1])), (q_219_0, .inr (1, [.ref q_219_1, .int o_4.2.1])), (q_219_1, .inl (cC, 3000, .inl o_4.2.2.1)), (q_219_2, .inr (0, [.ref q_219_3, .ref q_219_4, .ref q_219_5, .ref q_219_6, .int o_4.2.2.2.1, .int o_4.2.2.2.2.1, .int o_4.2.2.2.2.2.1])), (q_219_3, .inl (cI, 24, .inl o_4.2.2.2.2.2.2.1)), (q_219_4, .inl (cI, 24, .inl o_4.2.2.2.2.2.2.2.1)), (q_219_5, .inl (cI, 24, .inl o_4.2.2.2.2.2.2.2.2.1)), (q_219_6, .inl (cL, 24, .inr (.inl o_4.2.2.2.2.2.2.2.2.2.1))), (q_219_7, .inr (0, [.ref q_219_8, .ref q_219_9, .ref q_219_10, .ref q_219_11, .int o_4.2.2.2.2.2.2.2.2.2.2.1, .int o_4.2.2.2.2.2.2.2.2.2.2.2.1, .int o_4.2.2.2.2.2.2.2.2.2.2.2.2.1])), (q_219_8, .inl (cI, 24, .inl o_4.2.2.2.2.2.2.2.2.2.2.2.2.2.1)), (q_219_9, .inl (cI, 24, .inl o_4.2.2.2.2.2.2.2.2.2.2.2.2.2.2.1)), (q_219_10, .inl (cI, 24, .inl o_4.2.2.2.2.2.2.2.2.2.2.2.2.2.2.2.1)), (q_219_11, .inl (cL, 24, .inr (.inl o_4.2.2.2.2.2.2.2.2.2.2.2.2.2.2.2.2))), (q_224, .inr (6, [.int o_12.1, .ref q_224_0, .ref q_224_1, .ref q_224_2, .ref q_224_3, .ref q_224_4, .ref q_224_5, .ref q_224_6, .int o_12.2.1, .ref q_224_7, .int o_12.2.2.1, .int o_12.2.2.2.1, .int o_12.2.2.2.2.1, .int o_12.2.2.2.2.2.1, .int o_12.2.2.2.2.2.2.1, .int o_12.2.2.2.2.2.2.2.1, .ref q_224_8])), (q_224_0, .inl (cC, 6, .inl o_12.2.2.2.2.2.2.2.2.1)), (q_224_1, .inl (cI, 2, .inl o_12.2.2.2.2.2.2.2.2.2.1)), (q_224_2, .inl (cI, 48, .inl o_12.2.2.2.2.2.2.2.2.2.2.1)), (q_224_3, .inl (cI, 48, .inl o_12.2.2.2.2.2.2.2.2.2.2.2.1)), (q_224_4, .inl (cZ, 48, .inl o_12.2.2.2.2.2.2.2.2.2.2.2.2.1)), (q_224_5, .inl (cI, 48, .inl o_12.2.2.2.2.2.2.2.2.2.2.2.2.2.1)), (q_224_6, .inl (cC, 288, .inl o_12.2.2.2.2.2.2.2.2.2.2.2.2.2.2.1)), (q_224_7, .inl (cC, 3000, .inl o_12.2.2.2.2.2.2.2.2.2.2.2.2.2.2.2.1)), (q_224_8, .inl (cC, 6, .inl o_12.2.2.2.2.2.2.2.2.2.2.2.2.2.2.2.2))] := hD.sub [0, 1, 2, 3, 4, 5, 6, 7, 8, 9, 10, 11, 12, 13, 14, 15, 16, 17, 18, 19, 20, 21, 22] (by decide) rfl
  refine lv_astore_n (lv' := [(2, .ref q_224), (1, .ref q_219), (0, .ref b)]) hx hb dd_L_law_15 rfl hl (by decide) rfl (fun ls hl => ?_)
  refine lv_iconst (v := 0) hx hb dd_L_law_16 (by decide) ?_
  refine lv_istore_n (lv' := [(3, .int 0), (2, .ref q_224), (1, .ref q_219), (0, .ref b)]) hx hb dd_L_law_17 rfl hl (by decide) rfl (fun ls hl => ?_)
  refine W.widen (k := 23 + 2 * 0) (n := 6723 + 7 * 0) (by omega) (by omega) ?_
  exact law_loop hL C0 hAe hV hK 4000 0 rfl o_4.1 o_4.2.1 o_4.2.2.1 o_4.2.2.2.1 o_4.2.2.2.2.1 o_4.2.2.2.2.2.1 o_4.2.2.2.2.2.2.1 o_4.2.2.2.2.2.2.2.1 o_4.2.2.2.2.2.2.2.2.1 o_4.2.2.2.2.2.2.2.2.2.1 o_4.2.2.2.2.2.2.2.2.2.2.1 o_4.2.2.2.2.2.2.2.2.2.2.2.1 o_4.2.2.2.2.2.2.2.2.2.2.2.2.1 o_4.2.2.2.2.2.2.2.2.2.2.2.2.2.1 o_4.2.2.2.2.2.2.2.2.2.2.2.2.2.2.1 o_4.2.2.2.2.2.2.2.2.2.2.2.2.2.2.2.1 o_4.2.2.2.2.2.2.2.2.2.2.2.2.2.2.2.2 o_12.1 o_12.2.1 o_12.2.2.1 o_12.2.2.2.1 o_12.2.2.2.2.1 o_12.2.2.2.2.2.1 o_12.2.2.2.2.2.2.1 o_12.2.2.2.2.2.2.2.1 o_12.2.2.2.2.2.2.2.2.1 o_12.2.2.2.2.2.2.2.2.2.1 o_12.2.2.2.2.2.2.2.2.2.2.1 o_12.2.2.2.2.2.2.2.2.2.2.2.1 o_12.2.2.2.2.2.2.2.2.2.2.2.2.1 o_12.2.2.2.2.2.2.2.2.2.2.2.2.2.1 o_12.2.2.2.2.2.2.2.2.2.2.2.2.2.2.1 o_12.2.2.2.2.2.2.2.2.2.2.2.2.2.2.2.1 o_12.2.2.2.2.2.2.2.2.2.2.2.2.2.2.2.2 0 hF q_219 q_219_0 q_219_1 q_219_2 q_219_3 q_219_4 q_219_5 q_219_6 q_219_7 q_219_8 q_219_9 q_219_10 q_219_11 q_224 q_224_0 q_224_1 q_224_2 q_224_3 q_224_4 q_224_5 q_224_6 q_224_7 q_224_8 H_226 locs_227 hP hD hS ls (lv_sub hl [3, 2, 1, 0] rfl)
