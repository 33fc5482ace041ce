/-! Pure rows: the next line found, and the read report taken over. -/
theorem nl_dec (q : Nat → Nat) (T : Nat) : ∀ (d a : Nat), a + d = T → (∃ e, a ≤ e ∧ e < T ∧ q e = 10 ∧ ∀ i, a ≤ i → i < e → q i ≠ 10) ∨ ∀ i, a ≤ i → i < T → q i ≠ 10 := by
  intro d
  induction d with
  | zero => exact fun a h => Or.inr (fun i h1 h2 => by omega)
  | succ d ih =>
    intro a h
    by_cases e : q a = 10
    · exact Or.inl ⟨a, Nat.le_refl a, by omega, e, fun i h1 h2 => by omega⟩
    · rcases ih (a + 1) (by omega) with ⟨x, x1, x2, x3, x4⟩ | x
      · refine Or.inl ⟨x, by omega, x2, x3, fun i h1 h2 => ?_⟩
        by_cases ei : i = a
        · rw [ei]; exact e
        · exact x4 i (by omega) h2
      · refine Or.inr (fun i h1 h2 => ?_)
        by_cases ei : i = a
        · rw [ei]; exact e
        · exact x i (by omega) h2
section Nl
variable {pg : Nat → Int32} {T : Nat} {q : Nat → Nat}
theorem nl_cls (hq : rq_ pg T q) {e : Nat} (he : e ≤ T) (h10 : e < T → q e = 10) (sp le : Int32) : ∀ (d i F : Nat), i + d = e → d < F → (∀ j, i ≤ j → j < e → q j ≠ 10) → fl_C_goToNextLine_15 (nI T) pg F (sp, le, nI i) = some (if e < T then 1 else 0, sp, nI e) := by
  have hT := hq.1
  intro d
  induction d with
  | zero =>
    intro i F hi hF hn
    have : i = e := by omega
    subst this
    cases F with
    | zero => omega
    | succ F =>
      rw [fs_C_goToNextLine_15]
      unfold fb_C_goToNextLine_15
      by_cases z : i < T
      · have a := hq.2 i z
        rw [if_neg (nI_ge z (by omega)), jv_gp (pu_g (by omega) (by decide)), nI_clamp (by omega), a.1, if_pos (show nI (q i) = 10 by rw [h10 z]; rfl), if_pos z]
      · rw [if_pos (nI_le (by omega) (by omega)), if_neg z, show i = T by omega]
  | succ d ih =>
    intro i F hi hF hn
    cases F with
    | zero => omega
    | succ F =>
      have a := hq.2 i (by omega)
      have b := hn i (Nat.le_refl i) (by omega)
      rw [fs_C_goToNextLine_15]
      unfold fb_C_goToNextLine_15
      rw [if_neg (nI_ge (by omega) (by omega)), jv_gp (pu_g (by omega) (by decide)), nI_clamp (by omega), a.1, if_neg (show ¬ nI (q i) = 10 from fun z => b ((nI_eq (b := 10) (by omega) (by omega)).mp z)), nI_1]
      exact ih (i + 1) F (by omega) (by omega) (fun j j1 j2 => hn j (by omega) j2)
theorem nl_ref (hq : rq_ pg T q) {e : Nat} (he : e ≤ T) (h10 : e < T → q e = 10) (k28 : Int32 × Int32 × Int32 × Int32 × Int32 × Int32 × (Nat → Int32) × (Nat → Int32) × (Nat → Int32) × (Nat → Int32) × (Nat → Int32) × (Nat → Int32) × (Nat → Int32) × Int32 × Int32 × Int32 → Option (Int32 × Int32 × Int32 × Int32 × Int32 × Int32 × Int32 × (Nat → Int32) × (Nat → Int32) × (Nat → Int32) × (Nat → Int32) × (Nat → Int32) × (Nat → Int32) × (Nat → Int32))) (mt sx pl ov tk : Int32) (cu pa re cl si lt rd : Nat → Int32) (x1 x2 : Int32) : ∀ (d i F : Nat), i + d = e → d < F → (∀ j, i ≤ j → j < e → q j ≠ 10) →
    fl_M_read_45 (nI T) pg k28 F (mt, nI i, sx, pl, ov, tk, cu, pa, re, cl, si, lt, rd, x1, x2) = fb_M_read_83 (nI T) pg k28 mt (nI e) sx pl ov tk cu pa re cl si lt rd x1 x2 := by
  have hT := hq.1
  intro d
  induction d with
  | zero =>
    intro i F hi hF hn
    have : i = e := by omega
    subst this
    cases F with
    | zero => omega
    | succ F =>
      rw [fs_M_read_45]
      unfold fb_M_read_45
      by_cases z : i < T
      · have a := hq.2 i z
        rw [if_neg (nI_ge z (by omega)), jv_gp (pu_g (by omega) (by decide)), nI_clamp (by omega), a.1, if_pos (show nI (q i) = 10 by rw [h10 z]; rfl)]
      · rw [if_pos (nI_le (by omega) (by omega))]
  | succ d ih =>
    intro i F hi hF hn
    cases F with
    | zero => omega
    | succ F =>
      have a := hq.2 i (by omega)
      have b := hn i (Nat.le_refl i) (by omega)
      rw [fs_M_read_45]
      unfold fb_M_read_45
      rw [if_neg (nI_ge (by omega) (by omega)), jv_gp (pu_g (by omega) (by decide)), nI_clamp (by omega), a.1, if_neg (show ¬ nI (q i) = 10 from fun z => b ((nI_eq (b := 10) (by omega) (by omega)).mp z)), nI_1]
      exact ih (i + 1) F (by omega) (by omega) (fun j j1 j2 => hn j (by omega) j2)
end Nl
section Ad
variable {cu pa re cl si lt : Nat → Int32} {n : Nat} {K P : Nat → Nat} {N : Nat → List Nat}
theorem pv_o0 (f : Nat → Int32) (g : Nat → Int32) (m : Nat) : upd (pv_ov f 0 g m) m (g m) = pv_ov f 0 g (m + 1) := by
  have := pv_ovs f 0 g m
  rw [Nat.zero_add] at this
  exact this
theorem pv_oo {f g : Nat → Int32} {m j : Nat} (h : m ≤ j) : pv_ov f 0 g m j = f j := by
  unfold pv_ov
  rw [if_neg (by omega)]
theorem pv_oi {f g : Nat → Int32} {m j : Nat} (h : j < m) : pv_ov f 0 g m j = g j := by
  unfold pv_ov
  rw [if_pos (by omega), Nat.sub_zero]
theorem ad_88 : fl_M_adopt_88 4000 (cu, pa, re, cl, si, lt, 0) = some (cu, pa, re, cl, si, pv_ov lt 0 (fun j => vp_nar .char (lt (144 + j))) 144) := by
  have e0 : fl_M_adopt_88 4000 (cu, pa, re, cl, si, lt, 0) = fl_M_adopt_88 4000 (cu, pa, re, cl, si, pv_ov lt 0 (fun j => vp_nar .char (lt (144 + j))) 0, nI 0) := by rw [pv_ov0]; rfl
  rw [e0]
  unfold fl_M_adopt_88
  refine pu_lp _ (fun i => (cu, pa, re, cl, si, pv_ov lt 0 (fun j => vp_nar .char (lt (144 + j))) i, nI i)) 144 _ (fun i hi k => ?_) (fun k => ?_) 144 0 4000 (by omega) (by omega)
  · show fb_M_adopt_88 k cu pa re cl si (pv_ov lt 0 (fun j => vp_nar .char (lt (144 + j))) i) (nI i) = k (cu, pa, re, cl, si, pv_ov lt 0 (fun j => vp_nar .char (lt (144 + j))) (i + 1), nI (i + 1))
    unfold fb_M_adopt_88
    rw [if_neg (show ¬ (144 : Int32) ≤ nI i from nI_ge (b := 144) hi (by decide)), show (144 : Int32) + nI i = nI (144 + i) from nI_add 144 i, jv_gp (pu_g (by omega) (by decide)), jv_gp (pu_g (by omega) (by decide)), nI_clamp (by omega), nI_clamp (by omega), nI_1, pv_oo (by omega), ← pv_o0]
  · show fb_M_adopt_88 k cu pa re cl si (pv_ov lt 0 (fun j => vp_nar .char (lt (144 + j))) 144) (nI 144) = _
    unfold fb_M_adopt_88
    rw [if_pos (by decide)]
theorem ad_14 : fl_M_adopt_14 4000 (cu, pa, re, cl, si, lt, 0) = some (cu, pv_ov pa 0 (fun j => pa (24 + j)) 24, pv_ov re 0 (fun j => re (24 + j)) 24, pv_ov cl 0 (fun j => vp_nar .boolean (cl (24 + j))) 24, pv_ov si 0 (fun j => si (24 + j)) 24, pv_ov lt 0 (fun j => vp_nar .char (lt (144 + j))) 144) := by
  have e0 : fl_M_adopt_14 4000 (cu, pa, re, cl, si, lt, 0) = fl_M_adopt_14 4000 (cu, pv_ov pa 0 (fun j => pa (24 + j)) 0, pv_ov re 0 (fun j => re (24 + j)) 0, pv_ov cl 0 (fun j => vp_nar .boolean (cl (24 + j))) 0, pv_ov si 0 (fun j => si (24 + j)) 0, lt, nI 0) := by rw [pv_ov0, pv_ov0, pv_ov0, pv_ov0]; rfl
  rw [e0]
  unfold fl_M_adopt_14
  refine pu_lp _ (fun i => (cu, pv_ov pa 0 (fun j => pa (24 + j)) i, pv_ov re 0 (fun j => re (24 + j)) i, pv_ov cl 0 (fun j => vp_nar .boolean (cl (24 + j))) i, pv_ov si 0 (fun j => si (24 + j)) i, lt, nI i)) 24 _ (fun i hi k => ?_) (fun k => ?_) 24 0 4000 (by omega) (by omega)
  · show fb_M_adopt_14 k cu (pv_ov pa 0 (fun j => pa (24 + j)) i) (pv_ov re 0 (fun j => re (24 + j)) i) (pv_ov cl 0 (fun j => vp_nar .boolean (cl (24 + j))) i) (pv_ov si 0 (fun j => si (24 + j)) i) lt (nI i) = k (cu, pv_ov pa 0 (fun j => pa (24 + j)) (i + 1), pv_ov re 0 (fun j => re (24 + j)) (i + 1), pv_ov cl 0 (fun j => vp_nar .boolean (cl (24 + j))) (i + 1), pv_ov si 0 (fun j => si (24 + j)) (i + 1), lt, nI (i + 1))
    have g1 : jv_ig (nI (24 + i)) 48 = true := pu_g (by omega) (by decide)
    have g2 : jv_ig (nI i) 48 = true := pu_g (by omega) (by decide)
    unfold fb_M_adopt_14
    rw [if_neg (show ¬ (24 : Int32) ≤ nI i from nI_ge (b := 24) hi (by decide)), ip_, jv_gp g1, jv_gp g2, jv_gp g1, jv_gp g2, jv_gp g1, jv_gp g2, jv_gp g1, jv_gp g2, nI_clamp (by omega), nI_clamp (by omega), nI_1, pv_oo (by omega), pv_oo (by omega), pv_oo (by omega), pv_oo (by omega), ← pv_o0, ← pv_o0, ← pv_o0, ← pv_o0]
  · show fb_M_adopt_14 k cu (pv_ov pa 0 (fun j => pa (24 + j)) 24) (pv_ov re 0 (fun j => re (24 + j)) 24) (pv_ov cl 0 (fun j => vp_nar .boolean (cl (24 + j))) 24) (pv_ov si 0 (fun j => si (24 + j)) 24) lt (nI 24) = _
    unfold fb_M_adopt_14
    rw [if_pos (by decide), ad_88]
theorem ad_ (h : rm_ 1 n K P N cu pa re cl si lt) (hn : n ≤ 24) (hN : ∀ k, k < n → pu_ok (N k)) :
    ∃ cu' pa' re' cl' si' lt', fn_M_adopt cu pa re cl si lt = some (cu', pa', re', cl', si', lt') ∧ rm_ 0 n K P N cu' pa' re' cl' si' lt' := by
  obtain ⟨h1, h2, h3, h4, h5, h6⟩ := h
  unfold fn_M_adopt
  rw [jv_gp (by decide), jv_gp (by decide), c0_, c1_, ad_14]
  refine ⟨_, _, _, _, _, _, rfl, by rw [pk_us]; exact h1, fun k hk => ?_, fun k hk => ?_, fun k hk => ?_, fun k hk => ?_, fun k hk i hi => ?_⟩
  · rw [Nat.mul_zero, Nat.zero_add, pv_oi (by omega)]
    exact h2 k hk
  · rw [Nat.mul_zero, Nat.zero_add, pv_oi (by omega)]
    exact h3 k hk
  · rw [Nat.mul_zero, Nat.zero_add, pv_oi (by omega)]
    have := h4 k hk
    rw [Nat.mul_one] at this
    show vp_nar .boolean (cl (24 + k)) = _
    rw [this]
    cases decide (K k = 4 ∨ K k = 5)
    · exact pv_z0
    · exact pv_z1
  · rw [Nat.mul_zero, Nat.zero_add, pv_oi (by omega)]
    exact h5 k hk
  · have ho := hN k hk
    have h66 := ho.1
    have hp := pn_getD_pos ho hi
    rw [Nat.mul_zero, Nat.zero_add, pv_oi (by omega)]
    have := h6 k hk i hi
    rw [show 6 * (24 * 1 + k) + i = 144 + (6 * k + i) by omega] at this
    show vp_nar .char (lt (144 + (6 * k + i))) = _
    rw [this, pv_nar (by omega)]
end Ad
