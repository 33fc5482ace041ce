/-! Pure rows: how both sides read a written name. -/
def ny_ (q : Nat → Nat) (e s : Nat) : Nat := if s + 1 < e then q (s + 1) else 0
/-- the letter written at s in a line that ends at e, and the place behind it -/
def tl_ (q : Nat → Nat) (e s : Nat) : Option (Nat × Nat) :=
  if s < e then
    (if q s = 92 then (if ny_ q e s = 92 ∨ ny_ q e s = 35 then some (ny_ q e s, s + 2) else none)
    else if q s = 35 then none else if q s = 32 ∧ ny_ q e s = 35 then none else some (q s, s + 1))
  else none
def tn_ (q : Nat → Nat) (e : Nat) : Nat → Nat → List Nat × Nat
  | 0, s => ([], s)
  | c + 1, s => match tl_ q e s with
    | none => ([], s)
    | some (x, s2) => (x :: (tn_ q e c s2).1, (tn_ q e c s2).2)
theorem tn_0 (q : Nat → Nat) (e s : Nat) : tn_ q e 0 s = ([], s) := rfl
theorem tn_n {q : Nat → Nat} {e c s : Nat} (h : tl_ q e s = none) : tn_ q e (c + 1) s = ([], s) := by
  unfold tn_
  rw [h]
theorem tn_s {q : Nat → Nat} {e c s x s2 : Nat} (h : tl_ q e s = some (x, s2)) : tn_ q e (c + 1) s = (x :: (tn_ q e c s2).1, (tn_ q e c s2).2) := by
  show (match tl_ q e s with
    | none => ([], s)
    | some (x, s2) => (x :: (tn_ q e c s2).1, (tn_ q e c s2).2)) = _
  rw [h]
theorem tl_ok {q : Nat → Nat} {e s x s2 : Nat} (h : tl_ q e s = some (x, s2)) (hl : ∀ i, s ≤ i → i < e → 32 ≤ q i ∧ q i ≤ 126) : 32 ≤ x ∧ x ≤ 126 ∧ s < s2 ∧ s2 ≤ e := by
  unfold tl_ at h
  by_cases h1 : s < e
  · rw [if_pos h1] at h
    have a1 := hl s (Nat.le_refl s) h1
    by_cases h2 : q s = 92
    · rw [if_pos h2] at h
      by_cases h3 : ny_ q e s = 92 ∨ ny_ q e s = 35
      · rw [if_pos h3] at h
        have h4 : s + 1 < e := by
          by_cases z : s + 1 < e
          · exact z
          · unfold ny_ at h3
            rw [if_neg z] at h3
            omega
        injection h with h
        injection h with b1 b2
        omega
      · rw [if_neg h3] at h
        cases h
    · rw [if_neg h2] at h
      by_cases h3 : q s = 35
      · rw [if_pos h3] at h; cases h
      · rw [if_neg h3] at h
        by_cases h4 : q s = 32 ∧ ny_ q e s = 35
        · rw [if_pos h4] at h; cases h
        · rw [if_neg h4] at h
          injection h with h
          injection h with b1 b2
          omega
  · rw [if_neg h1] at h
    cases h
theorem tl_le {q : Nat → Nat} {e s : Nat} (h : e ≤ s) : tl_ q e s = none := by
  unfold tl_
  rw [if_neg (by omega)]
theorem tn_ok {q : Nat → Nat} {e : Nat} : ∀ (c s : Nat), s ≤ e → (∀ i, s ≤ i → i < e → 32 ≤ q i ∧ q i ≤ 126) → (tn_ q e c s).1.length ≤ c ∧ (∀ x, x ∈ (tn_ q e c s).1 → 32 ≤ x ∧ x ≤ 126) ∧ s ≤ (tn_ q e c s).2 ∧ (tn_ q e c s).2 ≤ e := by
  intro c
  induction c with
  | zero =>
    intro s hs hl
    rw [tn_0]
    exact ⟨Nat.le_refl 0, fun x hx => (by cases hx), Nat.le_refl s, hs⟩
  | succ c ih =>
    intro s hs hl
    cases h : tl_ q e s with
    | none =>
      rw [tn_n h]
      exact ⟨Nat.zero_le _, fun x hx => (by cases hx), Nat.le_refl s, hs⟩
    | some p =>
      obtain ⟨x, s2⟩ := p
      have a := tl_ok h hl
      obtain ⟨i1, i2, i3, i4⟩ := ih s2 a.2.2.2 (fun i h1 h2 => hl i (by omega) h2)
      rw [tn_s h]
      refine ⟨Nat.succ_le_succ i1, fun y hy => ?_, by show s ≤ (tn_ q e c s2).2; omega, i4⟩
      cases hy with
      | head => omega
      | tail _ hy => exact i2 y hy
theorem tl_mark {q : Nat → Nat} {e u s : Nat} (hu : u + 2 ≤ e) (h1 : q u = 32) (h2 : q (u + 1) = 35) (hs : s ≤ u) : tl_ q e s = tl_ q u s := by
  have n1 : ny_ q e s = q (s + 1) := by unfold ny_; rw [if_pos (by omega)]
  unfold tl_
  rw [if_pos (by omega), n1]
  by_cases e1 : s = u
  · rw [e1, if_neg (Nat.lt_irrefl u), h1, if_neg (by omega), if_neg (by omega), if_pos ⟨rfl, h2⟩]
  · rw [if_pos (show s < u by omega)]
    by_cases e2 : s + 1 < u
    · rw [show ny_ q u s = q (s + 1) by unfold ny_; rw [if_pos e2]]
    · have e3 : s + 1 = u := by omega
      rw [show ny_ q u s = 0 by unfold ny_; rw [if_neg e2], e3, h1]
      by_cases e4 : q s = 92
      · rw [if_pos e4, if_pos e4, if_neg (by omega), if_neg (by omega)]
      · rw [if_neg e4, if_neg e4]
        by_cases e5 : q s = 35
        · rw [if_pos e5, if_pos e5]
        · rw [if_neg e5, if_neg e5, if_neg (by omega), if_neg (by omega)]
theorem tn_mark {q : Nat → Nat} {e u : Nat} (hu : u + 2 ≤ e) (h1 : q u = 32) (h2 : q (u + 1) = 35) : ∀ (c s : Nat), s ≤ u → (∀ i, s ≤ i → i < e → 32 ≤ q i ∧ q i ≤ 126) → tn_ q e c s = tn_ q u c s := by
  intro c
  induction c with
  | zero => intro s hs hl; rfl
  | succ c ih =>
    intro s hs hl
    have a := tl_mark hu h1 h2 hs
    cases h : tl_ q u s with
    | none => rw [tn_n h, tn_n (a.trans h)]
    | some p =>
      obtain ⟨x, s2⟩ := p
      have b := tl_ok h (fun i z1 z2 => hl i z1 (by omega))
      rw [tn_s h, tn_s (a.trans h), ih s2 b.2.2.2 (fun i z1 z2 => hl i (by omega) z2)]
theorem nl_53 {le : Int32} {ch : Nat → Int32} {h y s : Nat} (h1 : h ≤ 126) (h2 : 32 ≤ h) (y1 : y ≤ 126) :
    fb_C_takeLetter_53 le ch (nI s) (nI h) (nI y) = (if h = 92 then (if y = 92 ∨ y = 35 then some (nI y, nI (s + 2)) else some (0, nI s)) else if h = 35 then some (0, nI s) else if h = 32 ∧ y = 35 then some (0, nI s) else some (nI h, nI (s + 1))) := by
  have i1 : (nI h = 92) = (h = 92) := propext (nI_eq (b := 92) (by omega) (by omega))
  have i2 : (nI h = 35) = (h = 35) := propext (nI_eq (b := 35) (by omega) (by omega))
  have i3 : (nI h = 32) = (h = 32) := propext (nI_eq (b := 32) (by omega) (by omega))
  have i4 : (nI y = 92) = (y = 92) := propext (nI_eq (b := 92) (by omega) (by omega))
  have i5 : (nI y = 35) = (y = 35) := propext (nI_eq (b := 35) (by omega) (by omega))
  have i6 : ¬ nI h = 0 := nI_ne0 (by omega) (by omega)
  have i7 : nI s + 2 = nI (s + 2) := nI_add s 2
  unfold fb_C_takeLetter_53 fb_C_takeLetter_84
  rw [if_neg i6, nI_1, i7]
  simp only [i1, i2, i3, i4, i5]
  by_cases a1 : h = 92
  · rw [if_pos a1, if_pos a1, if_pos a1]
    by_cases a2 : y = 92
    · rw [if_pos a2, if_pos (Or.inl a2)]
    · rw [if_neg a2]
      by_cases a3 : y = 35
      · rw [if_pos a3, if_pos (Or.inr a3)]
      · rw [if_neg a3, if_neg (by omega)]
  · rw [if_neg a1, if_neg a1, if_neg a1]
    by_cases a2 : h = 35
    · rw [if_pos a2, if_pos a2]
    · rw [if_neg a2, if_neg a2]
      by_cases a3 : h = 32
      · rw [if_pos a3]
        by_cases a4 : y = 35
        · rw [if_pos a4, if_pos ⟨a3, a4⟩]
        · rw [if_neg a4, if_neg (fun z => a4 z.2)]
      · rw [if_neg a3, if_neg (fun z => a3 z.1)]
section Rn
variable {pg : Nat → Int32} {T : Nat} {q : Nat → Nat}
theorem rk_letter (hq : rq_ pg T q) {e s : Nat} (hs : s ≤ e) (he : e ≤ T) (hl : ∀ i, s ≤ i → i < e → 32 ≤ q i ∧ q i ≤ 126) :
    (tl_ q e s = none → fn_C_takeLetter (nI e) pg (nI s) = some (0, nI s)) ∧ ∀ x s2, tl_ q e s = some (x, s2) → fn_C_takeLetter (nI e) pg (nI s) = some (nI x, nI s2) := by
  obtain ⟨hT, hq⟩ := hq
  by_cases h1 : s < e
  · have a := hl s (Nat.le_refl s) h1
    have y1 : ny_ q e s ≤ 126 := by
      unfold ny_
      by_cases z : s + 1 < e
      · rw [if_pos z]; exact (hl (s + 1) (by omega) z).2
      · rw [if_neg z]; omega
    have e1 : fn_C_takeLetter (nI e) pg (nI s) = fb_C_takeLetter_53 (nI e) pg (nI s) (nI (q s)) (nI (ny_ q e s)) := by
      unfold fn_C_takeLetter fb_C_takeLetter_24
      rw [if_neg (nI_ge h1 (by omega)), jv_gp (pu_g (by omega) (by decide)), nI_clamp (by omega), (hq s (by omega)).1, nI_1]
      unfold ny_
      by_cases z : s + 1 < e
      · rw [if_neg (nI_ge z (by omega)), jv_gp (pu_g (by omega) (by decide)), nI_clamp (by omega), (hq (s + 1) (by omega)).1, if_pos z]
      · rw [if_pos (nI_le (by omega) (by omega)), if_neg z]
        rfl
    rw [e1, nl_53 a.2 a.1 y1]
    unfold tl_
    rw [if_pos h1]
    by_cases a1 : q s = 92
    · rw [if_pos a1, if_pos a1]
      by_cases a2 : ny_ q e s = 92 ∨ ny_ q e s = 35
      · rw [if_pos a2, if_pos a2]
        exact ⟨fun z => (by cases z), fun x s2 z => by injection z with z; injection z with z1 z2; rw [z1, z2]⟩
      · rw [if_neg a2, if_neg a2]
        exact ⟨fun _ => rfl, fun x s2 z => by cases z⟩
    · rw [if_neg a1, if_neg a1]
      by_cases a2 : q s = 35
      · rw [if_pos a2, if_pos a2]
        exact ⟨fun _ => rfl, fun x s2 z => by cases z⟩
      · rw [if_neg a2, if_neg a2]
        by_cases a3 : q s = 32 ∧ ny_ q e s = 35
        · rw [if_pos a3, if_pos a3]
          exact ⟨fun _ => rfl, fun x s2 z => by cases z⟩
        · rw [if_neg a3, if_neg a3]
          exact ⟨fun z => (by cases z), fun x s2 z => by injection z with z; injection z with z1 z2; rw [z1, z2]⟩
  · rw [tl_le (by omega)]
    refine ⟨fun _ => ?_, fun x s2 z => by cases z⟩
    unfold fn_C_takeLetter fb_C_takeLetter_24 fb_C_takeLetter_53 fb_C_takeLetter_84
    rw [if_pos (nI_le (by omega) (by omega)), nI_1, if_pos (nI_le (by omega) (by omega)), if_neg (by decide), if_pos rfl]
theorem rk_nameL (hq : rq_ pg T q) {e : Nat} (he : e ≤ T) : ∀ (c s F : Nat) (l : List Nat), l.length + c = 6 → c < F → s ≤ e → (∀ i, s ≤ i → i < e → 32 ≤ q i ∧ q i ≤ 126) → pu_ok l →
    fl_C_takeName_4 (nI e) pg F (nI s, lN (pu_k l), nI l.length) = some (lN (pu_k (l ++ (tn_ q e c s).1)), nI (tn_ q e c s).2) := by
  intro c
  induction c with
  | zero =>
    intro s F l hc hF hs hl ho
    cases F with
    | zero => omega
    | succ F =>
      rw [fs_C_takeName_4, tn_0]
      unfold fb_C_takeName_4
      rw [if_pos (show (6 : Int32) ≤ nI l.length by rw [show l.length = 6 by omega]; decide), List.append_nil]
  | succ c ih =>
    intro s F l hc hF hs hl ho
    cases F with
    | zero => omega
    | succ F =>
      obtain ⟨t1, t2⟩ := rk_letter hq hs he hl
      rw [fs_C_takeName_4]
      unfold fb_C_takeName_4
      rw [if_neg (show ¬ (6 : Int32) ≤ nI l.length from nI_ge (b := 6) (by omega) (by decide))]
      cases h : tl_ q e s with
      | none =>
        rw [t1 h, Option.bind_some, tn_n h, List.append_nil]
        dsimp only
        rw [if_pos rfl]
      | some p =>
        obtain ⟨x, s2⟩ := p
        have a := tl_ok h hl
        have hsn : (l ++ [x]).length = l.length + 1 := by rw [List.length_append]; rfl
        have := ih s2 F (l ++ [x]) (by omega) (by omega) a.2.2.2 (fun i z1 z2 => hl i (by omega) z2) (pn_snoc ho a.1 a.2.1 (by omega))
        rw [t2 x s2 h, Option.bind_some]
        dsimp only
        rw [if_neg (nI_ne0 (by omega) (by omega)), pn_with ho a.2.1 (by omega), Option.bind_some, nI_1, ← hsn, this, tn_s h, List.append_assoc]
        rfl
theorem rk_name (hq : rq_ pg T q) {e s : Nat} (he : e ≤ T) (hs : s ≤ e) (hl : ∀ i, s ≤ i → i < e → 32 ≤ q i ∧ q i ≤ 126) :
    fn_C_takeName (nI e) pg (nI s) = some (lN (pu_k (tn_ q e 6 s).1), nI (tn_ q e 6 s).2) := by
  unfold fn_C_takeName
  exact rk_nameL hq he 6 s 4000 [] rfl (by omega) hs hl ⟨by decide, fun c hc => by cases hc⟩
theorem rm_94 (hq : rq_ pg T q) {m u : Nat} {k5 : Int32 × Int32 × (Nat → Int32) × Int32 → Option (Int32 × Int32 × Int32 × (Nat → Int32))} {l : List Nat} {rd : Nat → Int32} (hm : m < T) (h6 : l.length < 6) (hr : ∀ i, i < l.length → rd i = nI (l.getD i 0)) :
    fb_M_eatName_94 pg k5 (nI m) (nI l.length) rd (nI u) = k5 (nI (m + 1), nI (l ++ [q m]).length, upd rd l.length (nI (q m)), nI u) ∧ ∀ i, i < (l ++ [q m]).length → upd rd l.length (nI (q m)) i = nI ((l ++ [q m]).getD i 0) := by
  obtain ⟨hT, hq⟩ := hq
  have hsn : (l ++ [q m]).length = l.length + 1 := by rw [List.length_append]; rfl
  have a := hq m hm
  constructor
  · unfold fb_M_eatName_94
    rw [jv_gp (pu_g (by omega) (by decide)), jv_gp (pu_g (by omega) (by decide)), nI_clamp (by omega), nI_clamp (by omega), a.1, pv_nar (by omega), nI_1, nI_1, hsn]
  · intro i hi
    by_cases e : i = l.length
    · rw [e, pk_us, List.getD_eq_getElem?_getD, List.getElem?_append_right (by omega), Nat.sub_self]
      rfl
    · rw [pk_un e, hr i (by omega), List.getD_eq_getElem?_getD, List.getD_eq_getElem?_getD, List.getElem?_append_left (by omega)]
theorem rm_nameL (hq : rq_ pg T q) {u : Nat} (hu : u ≤ T) : ∀ (c s F : Nat) (l : List Nat) (rd : Nat → Int32), l.length + c = 6 → c + 1 < F → s ≤ u → (∀ i, s ≤ i → i < u → 32 ≤ q i ∧ q i ≤ 126) → (∀ i, i < l.length → rd i = nI (l.getD i 0)) →
    ((tn_ q u c s).2 = u → ∃ rd', fl_M_eatName_5 pg F (nI s, nI l.length, rd, nI u) = some (1, nI u, nI (l ++ (tn_ q u c s).1).length, rd') ∧ ∀ i, i < (l ++ (tn_ q u c s).1).length → rd' i = nI ((l ++ (tn_ q u c s).1).getD i 0)) ∧
    ((tn_ q u c s).2 ≠ u → ∃ x t r, fl_M_eatName_5 pg F (nI s, nI l.length, rd, nI u) = some (0, x, t, r)) := by
  have hT := hq.1
  intro c
  induction c with
  | zero =>
    intro s F l rd hc hF hs hl hr
    cases F with
    | zero => omega
    | succ F =>
      rw [fs_M_eatName_5, tn_0, List.append_nil]
      unfold fb_M_eatName_5
      by_cases h : s = u
      · rw [if_pos (nI_le (by omega) (by omega)), if_pos (by rw [h]), h]
        exact ⟨fun _ => ⟨rd, rfl, hr⟩, fun z => absurd rfl z⟩
      · rw [if_neg (nI_ge (by omega) (by omega)), if_pos (show (6 : Int32) ≤ nI l.length by rw [show l.length = 6 by omega]; decide), if_neg (fun z => h ((nI_eq (by omega) (by omega)).mp z))]
        exact ⟨fun z => absurd z h, fun _ => ⟨_, _, _, rfl⟩⟩
  | succ c ih =>
    intro s F l rd hc hF hs hl hr
    cases F with
    | zero => omega
    | succ F =>
      rw [fs_M_eatName_5]
      unfold fb_M_eatName_5
      by_cases h : s = u
      · rw [if_pos (nI_le (by omega) (by omega)), if_pos (by rw [h]), tn_n (tl_le (by omega)), List.append_nil, h]
        exact ⟨fun _ => ⟨rd, rfl, hr⟩, fun z => absurd rfl z⟩
      · have hsu : s < u := by omega
        have a := hl s (Nat.le_refl s) hsu
        have hqs := hq.2 s (by omega)
        rw [if_neg (nI_ge (by omega) (by omega)), if_neg (show ¬ (6 : Int32) ≤ nI l.length from nI_ge (b := 6) (by omega) (by decide)), jv_gp (pu_g (by omega) (by decide)), nI_clamp (by omega), hqs.1]
        have next : ∀ m, s ≤ m → m < u → tl_ q u s = some (q m, m + 1) → ((tn_ q u (c + 1) s).2 = u → ∃ rd', fb_M_eatName_94 pg (fl_M_eatName_5 pg F) (nI m) (nI l.length) rd (nI u) = some (1, nI u, nI (l ++ (tn_ q u (c + 1) s).1).length, rd') ∧ ∀ i, i < (l ++ (tn_ q u (c + 1) s).1).length → rd' i = nI ((l ++ (tn_ q u (c + 1) s).1).getD i 0)) ∧
    ((tn_ q u (c + 1) s).2 ≠ u → ∃ x t r, fb_M_eatName_94 pg (fl_M_eatName_5 pg F) (nI m) (nI l.length) rd (nI u) = some (0, x, t, r)) := by
          intro m m1 m2 m3
          obtain ⟨b1, b2⟩ := rm_94 hq (u := u) (k5 := fl_M_eatName_5 pg F) (show m < T by omega) (show l.length < 6 by omega) hr
          have hsn : (l ++ [q m]).length = l.length + 1 := by rw [List.length_append]; rfl
          have := ih (m + 1) F (l ++ [q m]) _ (by omega) (by omega) (by omega) (fun i z1 z2 => hl i (by omega) z2) b2
          rw [b1, tn_s m3, show l ++ q m :: (tn_ q u c (m + 1)).1 = (l ++ [q m]) ++ (tn_ q u c (m + 1)).1 by rw [List.append_assoc]; rfl]
          exact this
        have stop : tl_ q u s = none → ∀ x t r, ((tn_ q u (c + 1) s).2 = u → ∃ rd', some ((0 : Int32), x, t, r) = some (1, nI u, nI (l ++ (tn_ q u (c + 1) s).1).length, rd') ∧ ∀ i, i < (l ++ (tn_ q u (c + 1) s).1).length → rd' i = nI ((l ++ (tn_ q u (c + 1) s).1).getD i 0)) ∧
    ((tn_ q u (c + 1) s).2 ≠ u → ∃ (x2 t2 : Int32) (r2 : Nat → Int32), some ((0 : Int32), x, t, r) = some (0, x2, t2, r2)) := by
          intro z x t r
          rw [tn_n z]
          exact ⟨fun w => absurd w h, fun _ => ⟨_, _, _, rfl⟩⟩
        by_cases e35 : q s = 35
        · rw [if_pos (show nI (q s) = 35 by rw [e35]; rfl)]
          exact stop (by unfold tl_; rw [if_pos hsu, if_neg (by omega), if_pos e35]) _ _ _
        · rw [if_neg (show ¬ nI (q s) = 35 from fun z => e35 ((nI_eq (b := 35) (by omega) (by omega)).mp z))]
          by_cases e92 : q s = 92
          · rw [if_pos (show nI (q s) = 92 by rw [e92]; rfl), nI_1]
            by_cases hn : s + 1 < u
            · have a2 := hl (s + 1) (by omega) hn
              have hqs2 := hq.2 (s + 1) (by omega)
              have n1 : ny_ q u s = q (s + 1) := by unfold ny_; rw [if_pos hn]
              rw [if_neg (nI_ge hn (by omega)), jv_gp (pu_g (by omega) (by decide)), nI_clamp (by omega), hqs2.1, jv_gp (pu_g (by omega) (by decide))]
              by_cases f92 : q (s + 1) = 92
              · rw [if_pos (show nI (q (s + 1)) = 92 by rw [f92]; rfl)]
                exact next (s + 1) (by omega) hn (by unfold tl_; rw [if_pos hsu, if_pos e92, n1, if_pos (Or.inl f92)])
              · rw [if_neg (show ¬ nI (q (s + 1)) = 92 from fun z => f92 ((nI_eq (b := 92) (by omega) (by omega)).mp z))]
                by_cases f35 : q (s + 1) = 35
                · rw [if_pos (show nI (q (s + 1)) = 35 by rw [f35]; rfl)]
                  exact next (s + 1) (by omega) hn (by unfold tl_; rw [if_pos hsu, if_pos e92, n1, if_pos (Or.inr f35)])
                · rw [if_neg (show ¬ nI (q (s + 1)) = 35 from fun z => f35 ((nI_eq (b := 35) (by omega) (by omega)).mp z))]
                  exact stop (by unfold tl_; rw [if_pos hsu, if_pos e92, n1, if_neg (by omega)]) _ _ _
            · rw [if_pos (nI_le (by omega) (by omega))]
              have n1 : ny_ q u s = 0 := by unfold ny_; rw [if_neg hn]
              exact stop (by unfold tl_; rw [if_pos hsu, if_pos e92, n1, if_neg (by omega)]) _ _ _
          · rw [if_neg (show ¬ nI (q s) = 92 from fun z => e92 ((nI_eq (b := 92) (by omega) (by omega)).mp z))]
            by_cases e3 : q s = 32 ∧ ny_ q u s = 35
            · have hn : s + 1 < u := by
                by_cases z : s + 1 < u
                · exact z
                · have := e3.2
                  unfold ny_ at this
                  rw [if_neg z] at this
                  omega
              have n1 : ny_ q u s = q (s + 1) := by unfold ny_; rw [if_pos hn]
              have f35 : q (s + 1) = 35 := by rw [← n1]; exact e3.2
              have hqs2 := hq.2 (s + 1) (by omega)
              have tnone : tl_ q u s = none := by unfold tl_; rw [if_pos hsu, if_neg e92, if_neg e35, if_pos e3]
              obtain ⟨b1, b2⟩ := rm_94 hq (u := u) (k5 := fl_M_eatName_5 pg F) (show s < T by omega) (show l.length < 6 by omega) hr
              rw [b1, tn_n tnone]
              refine ⟨fun w => absurd w h, fun _ => ?_⟩
              cases F with
              | zero => omega
              | succ F =>
                rw [fs_M_eatName_5]
                unfold fb_M_eatName_5
                rw [if_neg (nI_ge hn (by omega)), if_neg (show ¬ nI (s + 1) = nI u from fun z => by have := (nI_eq (by omega) (by omega)).mp z; omega), jv_gp (pu_g (by omega) (by decide)), nI_clamp (by omega), hqs2.1, if_pos (show nI (q (s + 1)) = 35 by rw [f35]; rfl)]
                by_cases z : (6 : Int32) ≤ nI (l ++ [q s]).length
                · rw [if_pos z]; exact ⟨_, _, _, rfl⟩
                · rw [if_neg z]; exact ⟨_, _, _, rfl⟩
            · exact next s (Nat.le_refl s) hsu (by unfold tl_; rw [if_pos hsu, if_neg e92, if_neg e35, if_neg e3])
theorem rm_name (hq : rq_ pg T q) {u s : Nat} (hu : u ≤ T) (hs : s ≤ u) (hl : ∀ i, s ≤ i → i < u → 32 ≤ q i ∧ q i ≤ 126) (tk : Int32) (rd : Nat → Int32) :
    ((tn_ q u 6 s).2 = u → ∃ rd', fn_M_eatName pg (nI s) tk rd (nI u) = some (1, nI u, nI (tn_ q u 6 s).1.length, rd') ∧ ∀ i, i < (tn_ q u 6 s).1.length → rd' i = nI ((tn_ q u 6 s).1.getD i 0)) ∧
    ((tn_ q u 6 s).2 ≠ u → ∃ x t r, fn_M_eatName pg (nI s) tk rd (nI u) = some (0, x, t, r)) := by
  unfold fn_M_eatName
  exact rm_nameL hq hu 6 s 4000 [] rd rfl (by omega) hs hl (fun i hi => absurd hi (Nat.not_lt_zero _))
end Rn
