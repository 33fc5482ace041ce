/-! Pure rows: how both sides write a text. -/
def tx_ (i : Nat) : List Nat := st_tx.getD i []
/-- the reference's texts by their numbers in the class -/
def mw_ (w : Nat) : Nat := [0, 3, 4, 5, 6, 7, 2, 8, 9].getD w 0
def nu_ (m : Nat) : List Nat := if m < 10 then [48 + m] else [48 + m / 10, 48 + m % 10]
def es_ : List Nat → List Nat
  | [] => []
  | c :: l => (if c = 92 ∨ c = 35 then [92, c] else [c]) ++ es_ l
def in_d (d : Nat) : List Nat := List.replicate (4 * d) 32
theorem tx_14 : ∀ i, i < 11 → (tx_ i).length ≤ 14 := by decide +kernel
theorem tx_r : ∀ i, i < 11 → ∀ j, j < 15 → (tx_ i).getD j 0 < 127 := by decide +kernel
theorem mw_lt : ∀ w, w < 9 → mw_ w < 11 := by decide +kernel
theorem mw_at : ∀ w, w < 9 → ∀ i, i < 16 → fn_M_letterOf (nI w) (nI i) = some (nI ((tx_ (mw_ w)).getD i 0)) := by decide +kernel
theorem mw_pos : ∀ w, w < 9 → ∀ i, i < (tx_ (mw_ w)).length → (tx_ (mw_ w)).getD i 0 ≠ 0 := by decide +kernel
theorem in_len (d : Nat) : (in_d d).length = 4 * d := List.length_replicate
theorem in_s (d : Nat) : in_d (d + 1) = in_d d ++ tx_ 1 := by
  unfold in_d
  rw [Nat.mul_add, ← List.replicate_append_replicate]
  rfl
theorem sl_len (i : Nat) (h : i < 11) : fn_S_length i = some (nI (tx_ i).length) := by
  unfold fn_S_length
  rw [if_pos h]
  rfl
theorem sl_at (i j : Nat) (h : i < 11) (hj : j < (tx_ i).length) : fn_S_charAt i (nI j) = some (nI ((tx_ i).getD j 0)) := by
  have h14 := tx_14 i h
  unfold fn_S_charAt
  rw [if_pos h]
  show jv_gd (jv_ig (nI j) (tx_ i).length) (some (nI ((tx_ i).getD (nI j).toNatClampNeg 0))) = _
  rw [jv_gp (pu_g hj (by omega)), nI_clamp (by omega)]
theorem wr_add {z c : Nat} {f : Nat → Int32} (hz : z < 3000) (hc : c < 65536) : fn_P_add (nI z) f (nI c) = some (1, nI (z + 1), pv_t f z [c]) := by
  unfold fn_P_add
  rw [if_pos (show nI z < 3000 from nI_lt (b := 3000) hz (by decide)), jv_gp (pu_g hz (by decide)), nI_clamp (by omega), nI_1, pv_nar hc, pv_one]
theorem wm_add {z c : Nat} {f : Nat → Int32} (hz : z < 3000) (hc : c < 65536) : fn_M_add (nI z) f (nI c) = some (nI (z + 1), pv_t f z [c]) := by
  unfold fn_M_add
  rw [jv_gp (pu_g hz (by decide)), nI_clamp (by omega), nI_1, pv_nar hc, pv_one]
theorem wv_o1 (f : Nat → Int32) (z : Nat) (l : List Nat) (i : Nat) : pv_t (pv_ov f z (fun j => nI (l.getD j 0)) i) (z + i) [l.getD i 0] = pv_ov f z (fun j => nI (l.getD j 0)) (i + 1) := by
  rw [← pv_one, ← pv_ovs]
theorem wr_text (i : Nat) (h : i < 11) : ∀ (z : Nat) (f : Nat → Int32), z + (tx_ i).length ≤ 3000 → fn_P_addText (nI z) f i = some (nI (z + (tx_ i).length), pv_t f z (tx_ i)) := by
  intro z f hz
  have h14 := tx_14 i h
  unfold fn_P_addText
  have e0 : fl_P_addText_2 4000 (nI z, f, i, 0) = fl_P_addText_2 4000 (nI (z + 0), pv_ov f z (fun j => nI ((tx_ i).getD j 0)) 0, i, nI 0) := by rw [pv_ov0]; rfl
  rw [e0]
  unfold fl_P_addText_2
  refine pu_lp _ (fun j => (nI (z + j), pv_ov f z (fun j => nI ((tx_ i).getD j 0)) j, i, nI j)) (tx_ i).length _ (fun j hj k => ?_) (fun k => ?_) (tx_ i).length 0 4000 (by omega) (by omega)
  · show fb_P_addText_2 k (nI (z + j)) (pv_ov f z (fun j => nI ((tx_ i).getD j 0)) j) i (nI j) = k (nI (z + (j + 1)), pv_ov f z (fun j => nI ((tx_ i).getD j 0)) (j + 1), i, nI (j + 1))
    have hr := tx_r i h j (by omega)
    unfold fb_P_addText_2
    rw [sl_len i h, Option.bind_some, if_neg (nI_ge hj (by omega)), sl_at i j h hj, Option.bind_some, wr_add (by omega) (by omega), Option.bind_some, wv_o1, nI_1]
    rfl
  · show fb_P_addText_2 k (nI (z + (tx_ i).length)) (pv_ov f z (fun j => nI ((tx_ i).getD j 0)) (tx_ i).length) i (nI (tx_ i).length) = _
    unfold fb_P_addText_2
    rw [sl_len i h, Option.bind_some, if_pos (nI_le (Nat.le_refl _) (by omega))]
    rfl
theorem wm_text (w : Nat) (h : w < 9) : ∀ (z : Nat) (f : Nat → Int32), z + (tx_ (mw_ w)).length ≤ 3000 → fn_M_addText (nI z) f (nI w) = some (nI (z + (tx_ (mw_ w)).length), pv_t f z (tx_ (mw_ w))) := by
  intro z f hz
  have h11 := mw_lt w h
  have h14 := tx_14 (mw_ w) h11
  unfold fn_M_addText
  have e0 : fl_M_addText_2 4000 (nI z, f, nI w, 0) = fl_M_addText_2 4000 (nI (z + 0), pv_ov f z (fun j => nI ((tx_ (mw_ w)).getD j 0)) 0, nI w, nI 0) := by rw [pv_ov0]; rfl
  rw [e0]
  unfold fl_M_addText_2
  refine pu_lp _ (fun j => (nI (z + j), pv_ov f z (fun j => nI ((tx_ (mw_ w)).getD j 0)) j, nI w, nI j)) (tx_ (mw_ w)).length _ (fun j hj k => ?_) (fun k => ?_) (tx_ (mw_ w)).length 0 4000 (by omega) (by omega)
  · show fb_M_addText_2 k (nI (z + j)) (pv_ov f z (fun j => nI ((tx_ (mw_ w)).getD j 0)) j) (nI w) (nI j) = k (nI (z + (j + 1)), pv_ov f z (fun j => nI ((tx_ (mw_ w)).getD j 0)) (j + 1), nI w, nI (j + 1))
    have hr := tx_r (mw_ w) h11 j (by omega)
    have hp := mw_pos w h j hj
    unfold fb_M_addText_2
    rw [mw_at w h j (by omega), Option.bind_some, if_neg (nI_ne0 (by omega) (by omega)), Option.bind_some, wm_add (by omega) (by omega), Option.bind_some, wv_o1, nI_1]
    rfl
  · show fb_M_addText_2 k (nI (z + (tx_ (mw_ w)).length)) (pv_ov f z (fun j => nI ((tx_ (mw_ w)).getD j 0)) (tx_ (mw_ w)).length) (nI w) (nI (tx_ (mw_ w)).length) = _
    unfold fb_M_addText_2
    rw [mw_at w h _ (by omega), Option.bind_some, if_pos (by rw [List.getD_eq_getElem?_getD, List.getElem?_eq_none (Nat.le_refl _)]; rfl)]
    rfl
theorem ww_ {F : Int32 → (Nat → Int32) → Option (Int32 × (Nat → Int32))} {b : List Nat} (h : ∀ (z : Nat) (f : Nat → Int32), z + b.length ≤ 3000 → F (nI z) f = some (nI (z + b.length), pv_t f z b)) {a : List Nat} {z : Nat} {f : Nat → Int32} (hz : z + (a ++ b).length ≤ 3000) : F (nI (z + a.length)) (pv_t f z a) = some (nI (z + (a ++ b).length), pv_t f z (a ++ b)) := by
  rw [List.length_append] at hz ⊢
  rw [h (z + a.length) (pv_t f z a) (by omega), pv_app, Nat.add_assoc]
theorem wr_indent (d : Nat) (hd : d ≤ 24) : ∀ (z : Nat) (f : Nat → Int32), z + (in_d d).length ≤ 3000 → fn_P_addIndent (nI z) f (nI d) = some (nI (z + (in_d d).length), pv_t f z (in_d d)) := by
  intro z f hz
  rw [in_len] at hz
  unfold fn_P_addIndent
  have e0 : fl_P_addIndent_2 4000 (nI z, f, nI d, 0) = fl_P_addIndent_2 4000 (nI (z + (in_d 0).length), pv_t f z (in_d 0), nI d, nI 0) := by
    rw [show in_d 0 = [] from rfl, pv_t0]
    rfl
  rw [e0]
  unfold fl_P_addIndent_2
  refine pu_lp _ (fun j => (nI (z + (in_d j).length), pv_t f z (in_d j), nI d, nI j)) d _ (fun j hj k => ?_) (fun k => ?_) d 0 4000 (by omega) (by omega)
  · show fb_P_addIndent_2 k (nI (z + (in_d j).length)) (pv_t f z (in_d j)) (nI d) (nI j) = k (nI (z + (in_d (j + 1)).length), pv_t f z (in_d (j + 1)), nI d, nI (j + 1))
    have e : fn_P_addText (nI (z + (in_d j).length)) (pv_t f z (in_d j)) 1 = _ := ww_ (F := fun z f => fn_P_addText z f 1) (wr_text 1 (by omega)) (a := in_d j) (z := z) (f := f) (by rw [← in_s, in_len]; omega)
    unfold fb_P_addIndent_2
    rw [if_neg (nI_ge hj (by omega)), e, Option.bind_some, in_s, nI_1]
  · show fb_P_addIndent_2 k (nI (z + (in_d d).length)) (pv_t f z (in_d d)) (nI d) (nI d) = _
    unfold fb_P_addIndent_2
    rw [if_pos (nI_le (Nat.le_refl _) (by omega))]
theorem wm_spaces (d : Nat) (hd : d ≤ 24) : ∀ (z : Nat) (f : Nat → Int32), z + (in_d d).length ≤ 3000 → fn_M_addSpaces (nI z) f (nI d) = some (nI (z + (in_d d).length), pv_t f z (in_d d)) := by
  intro z f hz
  rw [in_len] at hz
  have e4 : (4 : Int32) * nI d = nI (4 * d) := by rw [show (4 : Int32) = nI 4 from rfl, pk_mul]
  have rs : ∀ j, List.replicate (j + 1) 32 = List.replicate j 32 ++ [32] := fun j => by rw [← List.replicate_append_replicate]; rfl
  unfold fn_M_addSpaces
  have e0 : fl_M_addSpaces_2 4000 (nI z, f, nI d, 0) = fl_M_addSpaces_2 4000 (nI (z + (List.replicate 0 32).length), pv_t f z (List.replicate 0 32), nI d, nI 0) := by
    rw [show List.replicate 0 32 = ([] : List Nat) from rfl, pv_t0]
    rfl
  rw [e0]
  unfold fl_M_addSpaces_2
  refine pu_lp _ (fun j => (nI (z + (List.replicate j 32).length), pv_t f z (List.replicate j 32), nI d, nI j)) (4 * d) _ (fun j hj k => ?_) (fun k => ?_) (4 * d) 0 4000 (by omega) (by omega)
  · show fb_M_addSpaces_2 k (nI (z + (List.replicate j 32).length)) (pv_t f z (List.replicate j 32)) (nI d) (nI j) = k (nI (z + (List.replicate (j + 1) 32).length), pv_t f z (List.replicate (j + 1) 32), nI d, nI (j + 1))
    have e : fn_M_add (nI (z + (List.replicate j 32).length)) (pv_t f z (List.replicate j 32)) 32 = _ := ww_ (F := fun z f => fn_M_add z f 32) (b := [32]) (fun z f hz => wm_add (c := 32) (show z < 3000 by have hz : z + 1 ≤ 3000 := hz; omega) (by omega)) (a := List.replicate j 32) (z := z) (f := f) (by rw [← rs, List.length_replicate]; omega)
    unfold fb_M_addSpaces_2
    rw [e4, if_neg (nI_ge hj (by omega)), e, Option.bind_some, rs, nI_1]
  · show fb_M_addSpaces_2 k (nI (z + (List.replicate (4 * d) 32).length)) (pv_t f z (List.replicate (4 * d) 32)) (nI d) (nI (4 * d)) = _
    unfold fb_M_addSpaces_2
    rw [e4, if_pos (nI_le (Nat.le_refl _) (by omega))]
    rfl
theorem nu_len (m : Nat) : (nu_ m).length ≤ 2 := by
  unfold nu_
  by_cases h : m < 10
  · rw [if_pos h]; exact Nat.le_succ 1
  · rw [if_neg h]; exact Nat.le_refl 2
theorem wn_1 {m : Nat} (hm : m < 100) : ((48 + (nI m / 10)).toUInt32 % 65536).toInt32 = nI (48 + m / 10) := by
  rw [show (10 : Int32) = nI 10 from rfl, pk_div (by omega) (by omega) (by omega), show (48 : Int32) = nI 48 from rfl, nI_add, pk_char, pk_tn (by omega), Nat.mod_eq_of_lt (by omega)]
theorem wn_2 {m : Nat} (hm : m < 100) : ((48 + (nI m - nI m / 10 * 10)).toUInt32 % 65536).toInt32 = nI (48 + m % 10) := by
  rw [show (10 : Int32) = nI 10 from rfl, pk_rem (by omega) (by omega) (by omega), show (48 : Int32) = nI 48 from rfl, nI_add, pk_char, pk_tn (by omega), Nat.mod_eq_of_lt (by omega)]
theorem wr_num (m : Nat) (hm : m < 100) : ∀ (z : Nat) (f : Nat → Int32), z + (nu_ m).length ≤ 3000 → fn_P_addNumber (nI z) f (nI m) = some (nI (z + (nu_ m).length), pv_t f z (nu_ m)) := by
  intro z f hz
  unfold fn_P_addNumber fb_P_addNumber_19
  rw [wn_1 hm, wn_2 hm]
  unfold nu_ at hz ⊢
  by_cases h : m < 10
  · rw [if_pos h] at hz ⊢
    have hz : z + 1 ≤ 3000 := hz
    rw [if_pos (show nI m < 10 from nI_lt (b := 10) h (by decide)), wr_add (by omega) (by omega), Option.bind_some, show m % 10 = m by omega]
    rfl
  · rw [if_neg h] at hz ⊢
    have hz : z + 2 ≤ 3000 := hz
    rw [if_neg (show ¬ nI m < 10 from nI_nlt (b := 10) (by omega) (by omega)), wr_add (by omega) (by omega), Option.bind_some]
    show Option.bind (fn_P_add (nI (z + 1)) (pv_t f z [48 + m / 10]) _) _ = _
    rw [wr_add (by omega) (by omega), Option.bind_some]
    have e := pv_app f z [48 + m / 10] [48 + m % 10]
    show some (nI (z + 1 + 1), pv_t (pv_t f z [48 + m / 10]) (z + 1) [48 + m % 10]) = _
    rw [show z + 1 = z + [48 + m / 10].length from rfl, e]
    rfl
theorem wm_num (m : Nat) (hm : m < 100) : ∀ (z : Nat) (f : Nat → Int32), z + (nu_ m).length ≤ 3000 → fn_M_addNumber (nI z) f (nI m) = some (nI (z + (nu_ m).length), pv_t f z (nu_ m)) := by
  intro z f hz
  unfold fn_M_addNumber fb_M_addNumber_18
  rw [wn_1 hm, wn_2 hm]
  unfold nu_ at hz ⊢
  by_cases h : m < 10
  · rw [if_pos h] at hz ⊢
    have hz : z + 1 ≤ 3000 := hz
    rw [if_pos (show nI m ≤ 9 from nI_le (b := 9) (by omega) (by decide)), wm_add (by omega) (by omega), Option.bind_some, show m % 10 = m by omega]
    rfl
  · rw [if_neg h] at hz ⊢
    have hz : z + 2 ≤ 3000 := hz
    rw [if_neg (show ¬ nI m ≤ 9 from nI_ge (a := 9) (by omega) (by omega)), wm_add (by omega) (by omega), Option.bind_some]
    show Option.bind (fn_M_add (nI (z + 1)) (pv_t f z [48 + m / 10]) _) _ = _
    rw [wm_add (by omega) (by omega), Option.bind_some]
    have e := pv_app f z [48 + m / 10] [48 + m % 10]
    show some (nI (z + 1 + 1), pv_t (pv_t f z [48 + m / 10]) (z + 1) [48 + m % 10]) = _
    rw [show z + 1 = z + [48 + m / 10].length from rfl, e]
    rfl
