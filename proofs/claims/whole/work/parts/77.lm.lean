/-! Pure rows: the reference's lines; the way outwards. -/
section Lm
variable {n : Nat} {K D P : Nat → Nat} {N : Nat → List Nat} {L O : Nat} {cu pa re cl si lt : Nat → Int32}
theorem lm_0 (hm : rm_ 0 n K P N cu pa re cl si lt) : (∀ k, k < n → pa k = pu_r (P k)) ∧ (∀ k, k < n → re k = nI (if K k < 4 then K k else 4)) ∧ (∀ k, k < n → cl k = pu_b (decide (K k = 4 ∨ K k = 5))) ∧ (∀ k, k < n → si k = nI (N k).length) ∧ ∀ k, k < n → ∀ i, i < (N k).length → lt (6 * k + i) = nI ((N k).getD i 0) := by
  obtain ⟨h1, h2, h3, h4, h5, h6⟩ := hm
  simp only [Nat.mul_zero, Nat.zero_add] at h2 h3 h4 h5 h6
  exact ⟨h2, h3, h4, h5, h6⟩
theorem lm_verdict (hv : iv_ n K D P N L O) (hm : rm_ 0 n K P N cu pa re cl si lt) {k : Nat} (hk : k < n) (ok : Bool) : ∀ (z : Nat) (f : Nat → Int32), z + (t0_ D P N (if ok = true then 3 else 4) k).length ≤ 3000 → fn_M_addVerdict pa si lt (nI z) f (nI k) (pu_b ok) = some (nI (z + (t0_ D P N (if ok = true then 3 else 4) k).length), pv_t f z (t0_ D P N (if ok = true then 3 else 4) k)) := by
  intro z f hz
  have hn := iv_n hv
  have hd := iv_9 hv k hk
  obtain ⟨m1, m2, m3, m4, m5⟩ := lm_0 hm
  have main : ∀ w, w < 3 → w ≠ 0 → z + (t0_ D P N (mw_ w) k).length ≤ 3000 → fb_M_addVerdict_20 pa si lt (nI (z + (in_d (D k)).length)) (pv_t f z (in_d (D k))) (nI k) (nI w) = some (nI (z + (t0_ D P N (mw_ w) k).length), pv_t f z (t0_ D P N (mw_ w) k)) := by
    intro w hw hw0 hz
    unfold t0_ at hz ⊢
    have h1 : z + ((in_d (D k)).length + (tx_ (mw_ w)).length + (nu_ (pl_ P k)).length + (tx_ 5).length + (es_ (N k)).length) ≤ 3000 := by
      simp only [List.length_append] at hz
      exact hz
    have e2 : fn_M_addText (nI (z + (in_d (D k)).length)) (pv_t f z (in_d (D k))) (nI w) = _ := ww_ (F := fun z f => fn_M_addText z f (nI w)) (wm_text w (by omega)) (a := in_d (D k)) (z := z) (f := f) (by simp only [List.length_append]; omega)
    have e3 : fn_M_addNumber (nI (z + (in_d (D k) ++ tx_ (mw_ w)).length)) (pv_t f z (in_d (D k) ++ tx_ (mw_ w))) (nI (pl_ P k)) = _ := ww_ (F := fun z f => fn_M_addNumber z f (nI (pl_ P k))) (wm_num _ (pl_lt k (by omega))) (a := in_d (D k) ++ tx_ (mw_ w)) (z := z) (f := f) (by simp only [List.length_append]; omega)
    have e4 : fn_M_addText (nI (z + (in_d (D k) ++ tx_ (mw_ w) ++ nu_ (pl_ P k)).length)) (pv_t f z (in_d (D k) ++ tx_ (mw_ w) ++ nu_ (pl_ P k))) (nI 3) = _ := ww_ (F := fun z f => fn_M_addText z f (nI 3)) (wm_text 3 (by omega)) (a := in_d (D k) ++ tx_ (mw_ w) ++ nu_ (pl_ P k)) (z := z) (f := f) (by simp only [List.length_append]; show z + (_ + _ + _ + (tx_ 5).length) ≤ 3000; omega)
    have e5 : fn_M_addName si lt (nI (z + (in_d (D k) ++ tx_ (mw_ w) ++ nu_ (pl_ P k) ++ tx_ (mw_ 3)).length)) (pv_t f z (in_d (D k) ++ tx_ (mw_ w) ++ nu_ (pl_ P k) ++ tx_ (mw_ 3))) (nI k) = _ := ww_ (F := fun z f => fn_M_addName si lt z f (nI k)) (wm_name (iv_N hv k hk) (by omega) (m4 k hk) (m5 k hk)) (a := in_d (D k) ++ tx_ (mw_ w) ++ nu_ (pl_ P k) ++ tx_ (mw_ 3)) (z := z) (f := f) (by simp only [List.length_append]; show z + (_ + _ + _ + (tx_ 5).length + _) ≤ 3000; omega)
    unfold fb_M_addVerdict_20
    rw [e2, Option.bind_some, show (0 : Int32) = nI 0 from rfl, pm_place (g := 0) (by omega) hn hk (iv_5 hv) hm.2.1, Option.bind_some]
    dsimp only
    rw [show pu_c (fun j => decide (P j = P k)) (k + 1) = pl_ P k from rfl, e3, Option.bind_some]
    dsimp only
    rw [show (3 : Int32) = nI 3 from rfl, e4, Option.bind_some]
    dsimp only
    rw [e5, Option.bind_some]
    rfl
  have h4 : z + (in_d (D k)).length ≤ 3000 := by
    unfold t0_ at hz
    simp only [List.length_append] at hz
    omega
  unfold fn_M_addVerdict
  rw [show (0 : Int32) = nI 0 from rfl, pm_depth (g := 0) (by omega) hn (iv_5 hv) (iv_D hv) hm.2.1 hk, Option.bind_some, wm_spaces _ (by omega) z f h4, Option.bind_some]
  dsimp only
  cases ok with
  | true =>
    rw [if_neg (show ¬ pu_b true = nI 0 by decide), if_pos rfl]
    rw [if_pos rfl] at hz
    exact main 1 (by omega) (by omega) hz
  | false =>
    rw [if_pos (show pu_b false = nI 0 by decide), if_neg (show ¬ false = true by decide)]
    rw [if_neg (show ¬ false = true by decide)] at hz
    exact main 2 (by omega) (by omega) hz
theorem lm_finish (hv : iv_ n K D P N L O) (hm : rm_ 0 n K P N cu pa re cl si lt) {s : Nat} (hs : s < n) (hk : K s = 4 ∨ K s = 5) : ∀ (z : Nat) (f : Nat → Int32), z + (tp_ D P n (s + 1) ++ tv_ K D P N s).length ≤ 3000 → fn_M_finish cu pa re si lt (nI z) f (nI s) = some (nI (z + (tp_ D P n (s + 1) ++ tv_ K D P N s).length), pv_t f z (tp_ D P n (s + 1) ++ tv_ K D P N s)) := by
  intro z f hz
  have hn := iv_n hv
  have hd := iv_9 hv s hs
  obtain ⟨b, hb, hb2⟩ : ∃ b : Bool, vd_ (K s) = (if b = true then 3 else 4) ∧ (b = true ↔ ∀ k, s < k → k < n → pq_on P (P k) (s + 1) → K k ≠ 1) := by
    rcases hk with e | e
    · exact ⟨true, by rw [e]; rfl, fun _ k k1 k2 k3 => hv.2.2.2.2.2.2.2.2.1 s k hs e k1 k2 k3, fun _ => rfl⟩
    · refine ⟨false, by rw [e]; rfl, fun q => (by cases q), fun q => ?_⟩
      obtain ⟨k, k1, k2, k3, k4⟩ := hv.2.2.2.2.2.2.2.1 s hs e
      exact absurd k4 (q k k1 k2 k3)
  have hdr : tx_ (dr_ (K s)) = [] := by
    rcases hk with e | e <;> rw [e] <;> rfl
  have etv : tv_ K D P N s = t0_ D P N (if b = true then 3 else 4) s ++ [10] := by
    unfold tv_
    rw [hdr, List.append_nil, hb]
  rw [etv, ← List.append_assoc] at hz ⊢
  have etp : tp_ D P n (s + 1) = in_d (D s + 1) ++ tx_ 8 ++ nu_ (rs_ P n (s + 1)) ++ [10] := rfl
  have h1 : z + ((tp_ D P n (s + 1)).length + (t0_ D P N (if b = true then 3 else 4) s).length + 1) ≤ 3000 := by
    simp only [List.length_append] at hz
    exact hz
  have h2 : (tp_ D P n (s + 1)).length = (in_d (D s + 1)).length + (tx_ 8).length + (nu_ (rs_ P n (s + 1))).length + 1 := by
    rw [etp]
    simp only [List.length_append]
    rfl
  have e2 : fn_M_addText (nI (z + (in_d (D s + 1)).length)) (pv_t f z (in_d (D s + 1))) (nI 7) = _ := ww_ (F := fun z f => fn_M_addText z f (nI 7)) (wm_text 7 (by omega)) (a := in_d (D s + 1)) (z := z) (f := f) (by simp only [List.length_append]; show z + (_ + (tx_ 8).length) ≤ 3000; omega)
  have e3 : fn_M_addNumber (nI (z + (in_d (D s + 1) ++ tx_ (mw_ 7)).length)) (pv_t f z (in_d (D s + 1) ++ tx_ (mw_ 7))) (nI (rs_ P n (s + 1))) = _ := ww_ (F := fun z f => fn_M_addNumber z f (nI (rs_ P n (s + 1)))) (wm_num _ (rs_lt n (s + 1) hn)) (a := in_d (D s + 1) ++ tx_ (mw_ 7)) (z := z) (f := f) (by simp only [List.length_append]; show z + (_ + (tx_ 8).length + _) ≤ 3000; omega)
  have e4 : fn_M_addVerdict pa si lt (nI (z + (tp_ D P n (s + 1)).length)) (pv_t f z (tp_ D P n (s + 1))) (nI s) (pu_b b) = _ := ww_ (F := fun z f => fn_M_addVerdict pa si lt z f (nI s) (pu_b b)) (lm_verdict hv hm hs b) (a := tp_ D P n (s + 1)) (z := z) (f := f) (by simp only [List.length_append]; omega)
  unfold fn_M_finish
  rw [show (0 : Int32) = nI 0 from rfl, pm_depth (g := 0) (by omega) hn (iv_5 hv) (iv_D hv) hm.2.1 hs, Option.bind_some, nI_1, wm_spaces _ (by omega) z f (by omega), Option.bind_some]
  dsimp only
  rw [show (7 : Int32) = nI 7 from rfl, e2, Option.bind_some, ← pu_rs s, pm_rowSize (g := 0) (by omega) hn (by omega) (iv_5 hv) hm.1 hm.2.1, Option.bind_some]
  dsimp only
  rw [show pu_c (fun k => decide (P k = s + 1)) n = rs_ P n (s + 1) from rfl, e3, Option.bind_some]
  dsimp only
  rw [show (10 : Int32) = nI 10 from rfl, wma (by simp only [List.length_append]; show z + (_ + (tx_ 8).length + _) < 3000; omega) (by omega), Option.bind_some]
  dsimp only
  rw [pu_rs, pm_good (g := 0) (b := b) (by omega) hn hs (iv_6 hv) (iv_5 hv) hm.1 hm.2.1 hm.2.2.1 hb2, Option.bind_some, show in_d (D s + 1) ++ tx_ (mw_ 7) ++ nu_ (rs_ P n (s + 1)) ++ [10] = tp_ D P n (s + 1) from rfl, e4, Option.bind_some]
  dsimp only
  rw [wma (by simp only [List.length_append]; omega) (by omega), Option.bind_some]
end Lm
