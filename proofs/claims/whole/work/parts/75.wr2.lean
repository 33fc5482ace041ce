/-! Pure rows: names and lines, written by both sides. -/
theorem ci_ {c : Nat} (hc : c < 65536) : ((nI c).toUInt32 % 65536).toInt32 = nI c := by rw [pk_char, pk_tn (by omega), Nat.mod_eq_of_lt hc]
theorem wra {z c : Nat} {a : List Nat} {f : Nat → Int32} (hz : z + a.length < 3000) (hc : c < 65536) : fn_P_add (nI (z + a.length)) (pv_t f z a) (nI c) = some (1, nI (z + (a ++ [c]).length), pv_t f z (a ++ [c])) := by
  rw [wr_add hz hc, pv_app, List.length_append, Nat.add_assoc]
  rfl
theorem wma {z c : Nat} {a : List Nat} {f : Nat → Int32} (hz : z + a.length < 3000) (hc : c < 65536) : fn_M_add (nI (z + a.length)) (pv_t f z a) (nI c) = some (nI (z + (a ++ [c]).length), pv_t f z (a ++ [c])) := by
  rw [wm_add hz hc, pv_app, List.length_append, Nat.add_assoc]
  rfl
def ec_ (c : Nat) : List Nat := if c = 92 ∨ c = 35 then [92, c] else [c]
theorem es_app (a b : List Nat) : es_ (a ++ b) = es_ a ++ es_ b := by
  induction a with
  | nil => rfl
  | cons c a ih =>
    show ec_ c ++ es_ (a ++ b) = (ec_ c ++ es_ a) ++ es_ b
    rw [ih, List.append_assoc]
theorem es_one (c : Nat) : es_ [c] = ec_ c := List.append_nil _
theorem es_take {l : List Nat} {i : Nat} (h : i < l.length) : es_ (l.take (i + 1)) = es_ (l.take i) ++ ec_ (l.getD i 0) := by
  rw [List.take_succ_eq_append_getElem h, es_app, es_one, List.getD_eq_getElem?_getD, List.getElem?_eq_getElem h]
  rfl
theorem ec_len (c : Nat) : (ec_ c).length ≤ 2 := by
  unfold ec_
  by_cases h : c = 92 ∨ c = 35
  · rw [if_pos h]; exact Nat.le_refl 2
  · rw [if_neg h]; exact Nat.le_succ 1
theorem es_len (l : List Nat) : (es_ l).length ≤ 2 * l.length := by
  induction l with
  | nil => exact Nat.le_refl 0
  | cons c l ih =>
    have := ec_len c
    show (ec_ c ++ es_ l).length ≤ 2 * (l.length + 1)
    rw [List.length_append]
    omega
theorem es_mono (l : List Nat) (i : Nat) : (es_ (l.take i)).length ≤ (es_ l).length := by
  have e : es_ l = es_ (l.take i) ++ es_ (l.drop i) := by rw [← es_app, List.take_append_drop]
  rw [e, List.length_append]
  omega
theorem wr_name {l : List Nat} (hl : pu_ok l) : ∀ (z : Nat) (f : Nat → Int32), z + (es_ l).length ≤ 3000 → fn_P_addWritten (nI z) f (lN (pu_k l)) = some (nI (z + (es_ l).length), pv_t f z (es_ l)) := by
  intro z f hz
  have h6 := hl.1
  unfold fn_P_addWritten
  rw [pn_sizeOf hl, Option.bind_some]
  have e0 : fl_P_addWritten_8 4000 (nI z, f, lN (pu_k l), nI l.length, 0) = fl_P_addWritten_8 4000 (nI (z + (es_ (l.take 0)).length), pv_t f z (es_ (l.take 0)), lN (pu_k l), nI l.length, nI 0) := by
    rw [List.take_zero, show es_ [] = [] from rfl, pv_t0]
    rfl
  rw [e0]
  unfold fl_P_addWritten_8
  refine pu_lp _ (fun i => (nI (z + (es_ (l.take i)).length), pv_t f z (es_ (l.take i)), lN (pu_k l), nI l.length, nI i)) l.length _ (fun i hi k => ?_) (fun k => ?_) l.length 0 4000 (by omega) (by omega)
  · show fb_P_addWritten_8 k (nI (z + (es_ (l.take i)).length)) (pv_t f z (es_ (l.take i))) (lN (pu_k l)) (nI l.length) (nI i) = k (nI (z + (es_ (l.take (i + 1))).length), pv_t f z (es_ (l.take (i + 1))), lN (pu_k l), nI l.length, nI (i + 1))
    have hp := pn_getD_pos hl hi
    have hm := es_mono l (i + 1)
    rw [es_take hi] at hm ⊢
    rw [List.length_append] at hm
    unfold fb_P_addWritten_8 fb_P_addWritten_44
    rw [if_neg (nI_ge hi (by omega)), pn_codeAt hl (by omega), Option.bind_some, ci_ (by omega), nI_1, show (92 : Int32) = nI 92 from rfl, show (35 : Int32) = nI 35 from rfl]
    generalize l.getD i 0 = c at hp hm ⊢
    have two : (c = 92 ∨ c = 35) → Option.bind (fn_P_add (nI (z + (es_ (l.take i)).length)) (pv_t f z (es_ (l.take i))) (nI 92)) (fun o_40 => Option.bind (fn_P_add o_40.2.1 o_40.2.2 (nI c)) fun o_47 => k (o_47.2.1, o_47.2.2, lN (pu_k l), nI l.length, nI (i + 1))) = k (nI (z + (es_ (l.take i) ++ ec_ c).length), pv_t f z (es_ (l.take i) ++ ec_ c), lN (pu_k l), nI l.length, nI (i + 1)) := by
      intro q
      have ee : ec_ c = [92, c] := if_pos q
      rw [ee] at hm ⊢
      have hm : (es_ (l.take i)).length + 2 ≤ (es_ l).length := hm
      rw [wra (by omega) (by omega), Option.bind_some]
      dsimp only
      rw [wra (by rw [List.length_append]; show z + (_ + 1) < 3000; omega) (by omega), Option.bind_some, List.append_assoc]
      rfl
    by_cases e1 : c = 92
    · rw [if_pos (by rw [e1])]
      exact two (Or.inl e1)
    · rw [if_neg (fun q => e1 ((nI_eq (by omega) (by omega)).mp q))]
      by_cases e2 : c = 35
      · rw [if_pos (by rw [e2])]
        exact two (Or.inr e2)
      · have ee : ec_ c = [c] := if_neg (by omega)
        rw [ee] at hm ⊢
        have hm : (es_ (l.take i)).length + 1 ≤ (es_ l).length := hm
        rw [if_neg (fun q => e2 ((nI_eq (by omega) (by omega)).mp q)), wra (by omega) (by omega), Option.bind_some]
  · show fb_P_addWritten_8 k (nI (z + (es_ (l.take l.length)).length)) (pv_t f z (es_ (l.take l.length))) (lN (pu_k l)) (nI l.length) (nI l.length) = _
    unfold fb_P_addWritten_8
    rw [if_pos (nI_le (Nat.le_refl _) (by omega)), List.take_length]
theorem wm_name {l : List Nat} {j : Nat} {si lt : Nat → Int32} (hl : pu_ok l) (hj : j < 48) (hs : si j = nI l.length) (hlt : ∀ i, i < l.length → lt (6 * j + i) = nI (l.getD i 0)) : ∀ (z : Nat) (f : Nat → Int32), z + (es_ l).length ≤ 3000 → fn_M_addName si lt (nI z) f (nI j) = some (nI (z + (es_ l).length), pv_t f z (es_ l)) := by
  intro z f hz
  have h6 := hl.1
  unfold fn_M_addName
  have e0 : fl_M_addName_2 si lt 4000 (nI z, f, nI j, 0) = fl_M_addName_2 si lt 4000 (nI (z + (es_ (l.take 0)).length), pv_t f z (es_ (l.take 0)), nI j, nI 0) := by
    rw [List.take_zero, show es_ [] = [] from rfl, pv_t0]
    rfl
  rw [e0]
  unfold fl_M_addName_2
  refine pu_lp _ (fun i => (nI (z + (es_ (l.take i)).length), pv_t f z (es_ (l.take i)), nI j, nI i)) l.length _ (fun i hi k => ?_) (fun k => ?_) l.length 0 4000 (by omega) (by omega)
  · show fb_M_addName_2 si lt k (nI (z + (es_ (l.take i)).length)) (pv_t f z (es_ (l.take i))) (nI j) (nI i) = k (nI (z + (es_ (l.take (i + 1))).length), pv_t f z (es_ (l.take (i + 1))), nI j, nI (i + 1))
    have hp := pn_getD_pos hl hi
    have hm := es_mono l (i + 1)
    rw [es_take hi] at hm ⊢
    rw [List.length_append] at hm
    unfold fb_M_addName_2 fb_M_addName_36
    rw [jv_gp (pu_g hj (by decide)), nI_clamp (by omega), hs, if_neg (nI_ge hi (by omega)), pm_ix6, jv_gp (pu_g (by omega) (by decide)), nI_clamp (by omega), hlt i hi, nI_1, show (92 : Int32) = nI 92 from rfl, show (35 : Int32) = nI 35 from rfl]
    generalize l.getD i 0 = c at hp hm ⊢
    have two : (c = 92 ∨ c = 35) → Option.bind (fn_M_add (nI (z + (es_ (l.take i)).length)) (pv_t f z (es_ (l.take i))) (nI 92)) (fun o_39 => Option.bind (fn_M_add o_39.1 o_39.2 (nI c)) fun o_44 => k (o_44.1, o_44.2, nI j, nI (i + 1))) = k (nI (z + (es_ (l.take i) ++ ec_ c).length), pv_t f z (es_ (l.take i) ++ ec_ c), nI j, nI (i + 1)) := by
      intro q
      have ee : ec_ c = [92, c] := if_pos q
      rw [ee] at hm ⊢
      have hm : (es_ (l.take i)).length + 2 ≤ (es_ l).length := hm
      rw [wma (by omega) (by omega), Option.bind_some]
      dsimp only
      rw [wma (by rw [List.length_append]; show z + (_ + 1) < 3000; omega) (by omega), Option.bind_some, List.append_assoc]
      rfl
    by_cases e1 : c = 92
    · rw [if_pos (by rw [e1])]
      exact two (Or.inl e1)
    · rw [if_neg (fun q => e1 ((nI_eq (by omega) (by omega)).mp q))]
      by_cases e2 : c = 35
      · rw [if_pos (by rw [e2])]
        exact two (Or.inr e2)
      · have ee : ec_ c = [c] := if_neg (by omega)
        rw [ee] at hm ⊢
        have hm : (es_ (l.take i)).length + 1 ≤ (es_ l).length := hm
        rw [if_neg (fun q => e2 ((nI_eq (by omega) (by omega)).mp q)), wma (by omega) (by omega), Option.bind_some]
  · show fb_M_addName_2 si lt k (nI (z + (es_ (l.take l.length)).length)) (pv_t f z (es_ (l.take l.length))) (nI j) (nI l.length) = _
    unfold fb_M_addName_2
    rw [jv_gp (pu_g hj (by decide)), nI_clamp (by omega), hs, if_pos (nI_le (Nat.le_refl _) (by omega)), List.take_length]
