/-! Pure rows: how both sides read a text, spaces, a number. -/
/-- the text l stands at s and ends by e -/
def mt_ (q : Nat → Nat) (e s : Nat) (l : List Nat) : Prop := s + l.length ≤ e ∧ ∀ j, j < l.length → q (s + j) = l.getD j 0
theorem mt_nil {q : Nat → Nat} {e s : Nat} (h : s ≤ e) : mt_ q e s [] := ⟨h, fun j hj => absurd hj (Nat.not_lt_zero _)⟩
theorem mt_app {q : Nat → Nat} {e s : Nat} {a b : List Nat} : mt_ q e s (a ++ b) ↔ mt_ q e s a ∧ mt_ q e (s + a.length) b := by
  constructor
  · rintro ⟨h1, h2⟩
    rw [List.length_append] at h1 h2
    refine ⟨⟨by omega, fun j hj => ?_⟩, ⟨by omega, fun j hj => ?_⟩⟩
    · have := h2 j (by omega)
      rw [this, List.getD_eq_getElem?_getD, List.getD_eq_getElem?_getD, List.getElem?_append_left hj]
    · have := h2 (a.length + j) (by omega)
      rw [Nat.add_assoc, this, List.getD_eq_getElem?_getD, List.getD_eq_getElem?_getD, List.getElem?_append_right (by omega), Nat.add_sub_cancel_left]
  · rintro ⟨⟨h1, h2⟩, ⟨h3, h4⟩⟩
    refine ⟨by rw [List.length_append]; omega, fun j hj => ?_⟩
    rw [List.length_append] at hj
    by_cases h : j < a.length
    · rw [h2 j h, List.getD_eq_getElem?_getD, List.getD_eq_getElem?_getD, List.getElem?_append_left h]
    · have := h4 (j - a.length) (by omega)
      rw [Nat.add_assoc, Nat.add_sub_cancel' (by omega)] at this
      rw [this, List.getD_eq_getElem?_getD, List.getD_eq_getElem?_getD, List.getElem?_append_right (by omega)]
theorem mt_one {q : Nat → Nat} {e s c : Nat} : mt_ q e s [c] ↔ s < e ∧ q s = c := by
  constructor
  · rintro ⟨h1, h2⟩
    have h1 : s + 1 ≤ e := h1
    exact ⟨by omega, h2 0 (by show 0 < 1; omega)⟩
  · rintro ⟨h1, h2⟩
    refine ⟨by show s + 1 ≤ e; omega, fun j hj => ?_⟩
    have hj : j < 1 := hj
    rw [show j = 0 by omega]
    exact h2
section Rd
variable {pg : Nat → Int32} {T : Nat} {q : Nat → Nat}
def rq_ (pg : Nat → Int32) (T : Nat) (q : Nat → Nat) : Prop := T ≤ 3000 ∧ ∀ i, i < T → pg i = nI (q i) ∧ 10 ≤ q i ∧ q i ≤ 126
theorem rk_text (hq : rq_ pg T q) {i e s : Nat} (hi : i < 11) (hs : s ≤ e) (he : e ≤ T) :
    (mt_ q e s (tx_ i) → fn_C_skipText (nI e) pg (nI s) i = some (1, nI (s + (tx_ i).length))) ∧ (¬ mt_ q e s (tx_ i) → fn_C_skipText (nI e) pg (nI s) i = some (0, nI s)) := by
  obtain ⟨hT, hq⟩ := hq
  have h14 := tx_14 i hi
  unfold fn_C_skipText
  rw [sl_len i hi, Option.bind_some, pk_sub hs]
  by_cases hl : (tx_ i).length ≤ e - s
  · rw [if_pos (nI_le hl (by omega))]
    have lp : ∀ (d j F : Nat), j + d = (tx_ i).length → d < F → (∀ x, x < j → q (s + x) = (tx_ i).getD x 0) → (mt_ q e s (tx_ i) → fl_C_skipText_20 (nI e) pg F (nI s, i, nI j) = some (1, nI (s + (tx_ i).length))) ∧ (¬ mt_ q e s (tx_ i) → fl_C_skipText_20 (nI e) pg F (nI s, i, nI j) = some (0, nI s)) := by
      intro d
      induction d with
      | zero =>
        intro j F hj hF hx
        cases F with
        | zero => omega
        | succ F =>
          have hm : mt_ q e s (tx_ i) := ⟨by omega, fun x hxx => hx x (by omega)⟩
          refine ⟨fun _ => ?_, fun z => absurd hm z⟩
          rw [fs_C_skipText_20]
          unfold fb_C_skipText_20
          rw [sl_len i hi, Option.bind_some, if_pos (nI_le (by omega) (by omega)), Option.bind_some, nI_add]
      | succ d ih =>
        intro j F hj hF hx
        cases F with
        | zero => omega
        | succ F =>
          have hr := tx_r i hi j (by omega)
          have hqj := hq (s + j) (by omega)
          rw [fs_C_skipText_20]
          unfold fb_C_skipText_20
          rw [sl_len i hi, Option.bind_some, if_neg (nI_ge (by omega) (by omega)), nI_add, jv_gp (pu_g (by omega) (by decide)), sl_at i j hi (by omega), Option.bind_some, nI_clamp (by omega), hqj.1, nI_1]
          by_cases ec : q (s + j) = (tx_ i).getD j 0
          · rw [if_pos (by rw [ec])]
            exact ih (j + 1) F (by omega) (by omega) (fun x hxx => by
              by_cases ex : x = j
              · rw [ex]; exact ec
              · exact hx x (by omega))
          · rw [if_neg (fun z => ec ((nI_eq (by omega) (by omega)).mp z))]
            exact ⟨fun z => absurd (z.2 j (by omega)) ec, fun _ => rfl⟩
    exact lp (tx_ i).length 0 4000 (by omega) (by omega) (fun x hx => absurd hx (Nat.not_lt_zero _))
  · rw [if_neg (nI_ge (by omega) (by omega))]
    exact ⟨fun z => absurd z.1 (by omega), fun _ => rfl⟩
theorem rm_text (hq : rq_ pg T q) {w e s : Nat} (hw : w < 9) (hs : s ≤ e) (he : e ≤ T) :
    (mt_ q e s (tx_ (mw_ w)) → fn_M_eat (nI e) pg (nI s) (nI w) = some (1, nI (s + (tx_ (mw_ w)).length))) ∧ (¬ mt_ q e s (tx_ (mw_ w)) → fn_M_eat (nI e) pg (nI s) (nI w) = some (0, nI s)) := by
  obtain ⟨hT, hq⟩ := hq
  have h11 := mw_lt w hw
  have h14 := tx_14 (mw_ w) h11
  unfold fn_M_eat
  have lp : ∀ (d j F : Nat), j + d = (tx_ (mw_ w)).length → d < F → s + j ≤ e → (∀ x, x < j → q (s + x) = (tx_ (mw_ w)).getD x 0) → (mt_ q e s (tx_ (mw_ w)) → fl_M_eat_7 (nI e) pg F (nI s, nI w, nI (s + j), nI j) = some (1, nI (s + (tx_ (mw_ w)).length))) ∧ (¬ mt_ q e s (tx_ (mw_ w)) → fl_M_eat_7 (nI e) pg F (nI s, nI w, nI (s + j), nI j) = some (0, nI s)) := by
    intro d
    induction d with
    | zero =>
      intro j F hj hF hje hx
      cases F with
      | zero => omega
      | succ F =>
        have hm : mt_ q e s (tx_ (mw_ w)) := ⟨by omega, fun x hxx => hx x (by omega)⟩
        refine ⟨fun _ => ?_, fun z => absurd hm z⟩
        rw [fs_M_eat_7]
        unfold fb_M_eat_7
        rw [mw_at w hw j (by omega), Option.bind_some, if_pos (by rw [List.getD_eq_getElem?_getD, List.getElem?_eq_none (by omega)]; rfl), show j = (tx_ (mw_ w)).length by omega]
    | succ d ih =>
      intro j F hj hF hje hx
      cases F with
      | zero => omega
      | succ F =>
        have hr := tx_r (mw_ w) h11 j (by omega)
        have hp := mw_pos w hw j (by omega)
        rw [fs_M_eat_7]
        unfold fb_M_eat_7
        rw [mw_at w hw j (by omega), Option.bind_some, if_neg (nI_ne0 (by omega) (by omega))]
        by_cases ee : e ≤ s + j
        · rw [if_pos (nI_le ee (by omega))]
          exact ⟨fun z => absurd z.1 (by omega), fun _ => rfl⟩
        · have hqj := hq (s + j) (by omega)
          rw [if_neg (nI_ge (by omega) (by omega)), jv_gp (pu_g (by omega) (by decide)), Option.bind_some, nI_clamp (by omega), hqj.1, nI_1, nI_1]
          by_cases ec : q (s + j) = (tx_ (mw_ w)).getD j 0
          · rw [if_pos (by rw [ec])]
            exact ih (j + 1) F (by omega) (by omega) (by omega) (fun x hxx => by
              by_cases ex : x = j
              · rw [ex]; exact ec
              · exact hx x (by omega))
          · rw [if_neg (fun z => ec ((nI_eq (by omega) (by omega)).mp z))]
            exact ⟨fun z => absurd (z.2 j (by omega)) ec, fun _ => rfl⟩
  exact lp (tx_ (mw_ w)).length 0 4000 (by omega) (by omega) (by omega) (fun x hx => absurd hx (Nat.not_lt_zero _))
theorem rk_indent (hq : rq_ pg T q) {d e s : Nat} (hd : d ≤ 24) (hs : s ≤ e) (he : e ≤ T) :
    (mt_ q e s (in_d d) → fn_C_skipIndent (nI e) pg (nI s) (nI d) = some (1, nI (s + 4 * d))) ∧ (¬ mt_ q e s (in_d d) → ∃ x, fn_C_skipIndent (nI e) pg (nI s) (nI d) = some (0, x)) := by
  have hT := hq.1
  have ins : ∀ r, in_d (r + 1) = tx_ 1 ++ in_d r := by
    intro r
    show List.replicate (4 * (r + 1)) 32 = List.replicate 4 32 ++ List.replicate (4 * r) 32
    rw [List.replicate_append_replicate, show 4 * (r + 1) = 4 + 4 * r by omega]
  unfold fn_C_skipIndent
  have lp : ∀ (r i F s : Nat), i + r = d → r < F → s ≤ e → (mt_ q e s (in_d r) → fl_C_skipIndent_2 (nI e) pg F (nI s, nI d, nI i) = some (1, nI (s + 4 * r))) ∧ (¬ mt_ q e s (in_d r) → ∃ x, fl_C_skipIndent_2 (nI e) pg F (nI s, nI d, nI i) = some (0, x)) := by
    intro r
    induction r with
    | zero =>
      intro i F s hi hF hs
      cases F with
      | zero => omega
      | succ F =>
        refine ⟨fun _ => ?_, fun z => absurd (mt_nil hs) z⟩
        rw [fs_C_skipIndent_2]
        unfold fb_C_skipIndent_2
        rw [if_pos (nI_le (by omega) (by omega))]
        rfl
    | succ r ih =>
      intro i F s hi hF hs
      cases F with
      | zero => omega
      | succ F =>
        obtain ⟨t1, t2⟩ := rk_text hq (i := 1) (by omega) hs he
        have l1 : (tx_ 1).length = 4 := by decide
        rw [fs_C_skipIndent_2, ins, mt_app]
        unfold fb_C_skipIndent_2
        rw [if_neg (nI_ge (by omega) (by omega))]
        by_cases e1 : mt_ q e s (tx_ 1)
        · have := e1.1
          obtain ⟨u1, u2⟩ := ih (i + 1) F (s + 4) (by omega) (by omega) (by omega)
          rw [t1 e1, Option.bind_some, l1]
          dsimp only
          rw [if_neg (show ¬ (1 : Int32) = 0 by decide), nI_1]
          refine ⟨fun z => ?_, fun z => u2 (fun w => z ⟨e1, w⟩)⟩
          rw [u1 z.2]
          congr 3
          omega
        · rw [t2 e1, Option.bind_some]
          dsimp only
          rw [if_pos rfl]
          exact ⟨fun z => absurd z.1 e1, fun _ => ⟨_, rfl⟩⟩
  exact lp d 0 4000 s (by omega) (by omega) hs
theorem rm_spaces (hq : rq_ pg T q) {d e s : Nat} (hd : d ≤ 24) (hs : s ≤ e) (he : e ≤ T) :
    (mt_ q e s (in_d d) → fn_M_eatSpaces (nI e) pg (nI s) (nI d) = some (1, nI (s + 4 * d))) ∧ (¬ mt_ q e s (in_d d) → ∃ x, fn_M_eatSpaces (nI e) pg (nI s) (nI d) = some (0, x)) := by
  have hT := hq.1
  have e4 : (4 : Int32) * nI d = nI (4 * d) := by rw [show (4 : Int32) = nI 4 from rfl, pk_mul]
  have ins : ∀ r, List.replicate (r + 1) 32 = [32] ++ List.replicate r 32 := fun r => rfl
  unfold fn_M_eatSpaces
  have lp : ∀ (r i F s : Nat), i + r = 4 * d → r < F → s ≤ e → (mt_ q e s (List.replicate r 32) → fl_M_eatSpaces_2 (nI e) pg F (nI s, nI d, nI i) = some (1, nI (s + r))) ∧ (¬ mt_ q e s (List.replicate r 32) → ∃ x, fl_M_eatSpaces_2 (nI e) pg F (nI s, nI d, nI i) = some (0, x)) := by
    intro r
    induction r with
    | zero =>
      intro i F s hi hF hs
      cases F with
      | zero => omega
      | succ F =>
        refine ⟨fun _ => ?_, fun z => absurd (mt_nil hs) z⟩
        rw [fs_M_eatSpaces_2]
        unfold fb_M_eatSpaces_2
        rw [e4, if_pos (nI_le (by omega) (by omega))]
        rfl
    | succ r ih =>
      intro i F s hi hF hs
      cases F with
      | zero => omega
      | succ F =>
        rw [fs_M_eatSpaces_2, ins, mt_app, mt_one]
        unfold fb_M_eatSpaces_2
        rw [e4, if_neg (nI_ge (by omega) (by omega))]
        by_cases e1 : e ≤ s
        · rw [if_pos (nI_le e1 (by omega))]
          exact ⟨fun z => absurd z.1.1 (by omega), fun _ => ⟨_, rfl⟩⟩
        · have hqs := hq.2 s (by omega)
          rw [if_neg (nI_ge (by omega) (by omega)), jv_gp (pu_g (by omega) (by decide)), nI_clamp (by omega), hqs.1, nI_1, nI_1]
          by_cases e2 : q s = 32
          · obtain ⟨u1, u2⟩ := ih (i + 1) F (s + 1) (by omega) (by omega) (by omega)
            rw [if_pos (show nI (q s) = 32 by rw [e2]; rfl)]
            refine ⟨fun z => ?_, fun z => u2 (fun w => z ⟨⟨by omega, e2⟩, w⟩)⟩
            rw [u1 z.2]
            congr 3
            omega
          · rw [if_neg (show ¬ nI (q s) = 32 from fun z => e2 ((nI_eq (b := 32) (by omega) (by omega)).mp z))]
            exact ⟨fun z => absurd z.1.2 e2, fun _ => ⟨_, rfl⟩⟩
  exact lp (4 * d) 0 4000 s (by omega) (by omega) hs
theorem rk_digit (hq : rq_ pg T q) {d e s : Nat} (hd : d < 10) (hs : s ≤ e) (he : e ≤ T) :
    (mt_ q e s [48 + d] → fn_C_skipDigit (nI e) pg (nI s) (nI d) = some (1, nI (s + 1)) ∧ fn_M_eatDigit (nI e) pg (nI s) (nI d) = some (1, nI (s + 1))) ∧ (¬ mt_ q e s [48 + d] → fn_C_skipDigit (nI e) pg (nI s) (nI d) = some (0, nI s) ∧ fn_M_eatDigit (nI e) pg (nI s) (nI d) = some (0, nI s)) := by
  have hT := hq.1
  rw [mt_one]
  unfold fn_C_skipDigit fn_M_eatDigit
  by_cases e1 : e ≤ s
  · rw [if_pos (nI_le e1 (by omega))]
    exact ⟨fun z => absurd z.1 (by omega), fun _ => ⟨rfl, rfl⟩⟩
  · have hqs := hq.2 s (by omega)
    rw [if_neg (nI_ge (by omega) (by omega)), jv_gp (pu_g (by omega) (by decide)), nI_clamp (by omega), hqs.1, show (48 : Int32) = nI 48 from rfl, nI_add, nI_1]
    by_cases e2 : q s = 48 + d
    · rw [if_pos (by rw [e2])]
      exact ⟨fun _ => ⟨rfl, rfl⟩, fun z => absurd ⟨by omega, e2⟩ z⟩
    · rw [if_neg (fun z => e2 ((nI_eq (by omega) (by omega)).mp z))]
      exact ⟨fun z => absurd z.2 e2, fun _ => ⟨rfl, rfl⟩⟩
theorem rn_div {m : Nat} (hm : m < 100) : nI m / 10 = nI (m / 10) := pk_div (d := 10) (by omega) (by omega) (by omega)
theorem rn_mod {m : Nat} (hm : m < 100) : nI m - nI m / 10 * 10 = nI (m % 10) := pk_rem (d := 10) (by omega) (by omega) (by omega)
theorem rk_num (hq : rq_ pg T q) {m e s : Nat} (hm : m < 100) (hs : s ≤ e) (he : e ≤ T) :
    (mt_ q e s (nu_ m) → fn_C_skipNumber (nI e) pg (nI s) (nI m) = some (1, nI (s + (nu_ m).length)) ∧ fn_M_eatNumber (nI e) pg (nI s) (nI m) = some (1, nI (s + (nu_ m).length))) ∧ (¬ mt_ q e s (nu_ m) → ∃ x, fn_C_skipNumber (nI e) pg (nI s) (nI m) = some (0, x) ∧ fn_M_eatNumber (nI e) pg (nI s) (nI m) = some (0, x)) := by
  have hT := hq.1
  have last : ∀ s, s ≤ e → (mt_ q e s [48 + m % 10] → fb_C_skipNumber_17 (nI e) pg (nI s) (nI m) = some (1, nI (s + 1)) ∧ fb_M_eatNumber_17 (nI e) pg (nI s) (nI m) = some (1, nI (s + 1))) ∧ (¬ mt_ q e s [48 + m % 10] → ∃ x, fb_C_skipNumber_17 (nI e) pg (nI s) (nI m) = some (0, x) ∧ fb_M_eatNumber_17 (nI e) pg (nI s) (nI m) = some (0, x)) := by
    intro s hs
    obtain ⟨d1, d2⟩ := rk_digit hq (d := m % 10) (by omega) hs he
    unfold fb_C_skipNumber_17 fb_M_eatNumber_17
    rw [rn_mod hm]
    constructor
    · intro z
      rw [(d1 z).1, (d1 z).2, Option.bind_some]
      exact ⟨rfl, rfl⟩
    · intro z
      rw [(d2 z).1, (d2 z).2, Option.bind_some]
      exact ⟨_, rfl, rfl⟩
  unfold fn_C_skipNumber fn_M_eatNumber nu_
  by_cases h : m < 10
  · have h0 : nI m < 10 := nI_lt (b := 10) h (by decide)
    rw [if_pos h0, if_pos h0, if_pos h]
    have := last s hs
    rw [show m % 10 = m by omega] at this
    exact this
  · obtain ⟨d1, d2⟩ := rk_digit hq (d := m / 10) (by omega) hs he
    have h0 : ¬ nI m < 10 := nI_nlt (b := 10) (by omega) (by omega)
    rw [if_neg h0, if_neg h0, if_neg h, rn_div hm, show [48 + m / 10, 48 + m % 10] = [48 + m / 10] ++ [48 + m % 10] from rfl, mt_app]
    by_cases z : mt_ q e s [48 + m / 10]
    · have hz : s + 1 ≤ e := z.1
      obtain ⟨u1, u2⟩ := last (s + 1) hz
      rw [(d1 z).1, (d1 z).2, Option.bind_some, Option.bind_some]
      dsimp only
      rw [if_neg (show ¬ (1 : Int32) = 0 by decide), if_neg (show ¬ (1 : Int32) = 0 by decide)]
      exact ⟨fun w => u1 w.2, fun w => u2 (fun y => w ⟨z, y⟩)⟩
    · rw [(d2 z).1, (d2 z).2, Option.bind_some, Option.bind_some]
      dsimp only
      rw [if_pos rfl, if_pos rfl]
      exact ⟨fun w => absurd w.1 z, fun _ => ⟨_, rfl, rfl⟩⟩
end Rd
