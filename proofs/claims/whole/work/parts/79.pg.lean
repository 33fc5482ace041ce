/-! Pure rows: the page, written by both sides. -/
section Pg
variable {n : Nat} {K D P : Nat → Nat} {N : Nat → List Nat} {L O : Nat}
theorem ch_suite {r : Nat} (hv : iv_ n K D P N L O) (hr : r ≤ n) (h : ∀ s, r = s + 1 → 4 ≤ K s) {s : Nat} (ho : pq_on P r (s + 1)) : 4 ≤ K s := by
  obtain ⟨j, hj⟩ := ho
  induction j generalizing r with
  | zero => exact h s hj
  | succ j ih =>
    cases r with
    | zero =>
      rw [ch_zero] at hj
      omega
    | succ i =>
      have hi : i < n := by omega
      have := iv_5 hv i hi
      exact ih (r := P i) (by omega) (fun q hq => (hv.2.2.1.2 i q hi hq).1) hj
theorem pg_row (hv : iv_ n K D P N L O) {q : Nat} (hq : q < n) : pq_ra K P q ≤ q + 1 ∧ (∀ s, pq_ra K P q = s + 1 → 4 ≤ K s) := by
  have := iv_5 hv q hq
  unfold pq_ra
  by_cases e : 4 ≤ K q
  · rw [if_pos e]
    exact ⟨Nat.le_refl _, fun s hs => by rw [show s = q by omega]; exact e⟩
  · rw [if_neg e]
    exact ⟨by omega, fun s hs => (hv.2.2.1.2 q s hq hs).1⟩
theorem pg_rd (hv : iv_ n K D P N L O) {r : Nat} (hr : r ≤ n) (h : ∀ s, r = s + 1 → 4 ≤ K s) : pm_rd D r ≤ 3 := by
  cases r with
  | zero => exact Nat.zero_le _
  | succ s =>
    have := hv.2.2.2.1.2 s (by omega) (h s rfl)
    show D s + 1 ≤ 3
    omega
/-- the line of node k -/
def ln_ (K D P : Nat → Nat) (N : Nat → List Nat) (k : Nat) : List Nat := if K k < 4 then tv_ K D P N k else ts_ D N k
theorem par_ : ∀ k, k < 4 → (nI k - nI k / 2 * 2 = 0 ↔ k % 2 = 0) := by decide +kernel
theorem lm_node {cu pa re cl si lt : Nat → Int32} {k20 k30 : Int32 × (Nat → Int32) × Int32 × Int32 → Option (Int32 × Int32 × (Nat → Int32))} (hv : iv_ n K D P N L O) (hm : rm_ 0 n K P N cu pa re cl si lt) {k : Nat} (hk : k < n) : ∀ (z : Nat) (f : Nat → Int32), z + (ln_ K D P N k).length ≤ 3000 →
    fb_M_write_30 cu pa re cl si lt k20 k30 (nI z) f (pu_r (P k)) (nI k) = k20 (nI (z + (ln_ K D P N k).length), pv_t f z (ln_ K D P N k), pu_r (pq_ra K P k), nI (k + 1)) := by
  intro z f hz
  have hn := iv_n hv
  have h6 := iv_6 hv k hk
  have hd := iv_9 hv k hk
  obtain ⟨m1, m2, m3, m4, m5⟩ := lm_0 hm
  have g48 : jv_ig (nI k) 48 = true := pu_g (by omega) (by decide)
  unfold fb_M_write_30
  rw [jv_gp g48, nI_clamp (by omega), m1 k hk, if_pos rfl, jv_gp g48, m2 k hk]
  unfold ln_ at hz ⊢
  by_cases e : K k < 4
  · have era : pq_ra K P k = P k := if_neg (by omega)
    rw [if_pos e] at hz ⊢
    rw [era, if_pos e, if_neg (show ¬ nI (K k) = 4 from fun q => by have := (nI_eq (b := 4) (by omega) (by omega)).mp q; omega), jv_gp g48]
    obtain ⟨ok, hok, hvd⟩ : ∃ ok : Bool, (ok = true ↔ K k % 2 = 0) ∧ vd_ (K k) = (if ok = true then 3 else 4) := by
      by_cases e2 : K k % 2 = 0
      · refine ⟨true, ⟨fun _ => e2, fun _ => rfl⟩, ?_⟩
        unfold vd_
        rw [if_neg (by omega)]
        rfl
      · refine ⟨false, ⟨fun q => (by cases q), fun q => absurd q e2⟩, ?_⟩
        unfold vd_
        rw [if_pos (by omega)]
        rfl
    have h1 : z + ((t0_ D P N (if ok = true then 3 else 4) k).length + (tx_ (dr_ (K k))).length + 1) ≤ 3000 := by
      unfold tv_ at hz
      rw [hvd] at hz
      simp only [List.length_append] at hz
      exact hz
    have main : fb_M_write_109 cu pa re cl si lt k20 (nI z) f (pu_r (P k)) (nI k) (nI k) (pu_b ok) = k20 (nI (z + (tv_ K D P N k).length), pv_t f z (tv_ K D P N k), pu_r (P k), nI (k + 1)) := by
      unfold fb_M_write_109
      rw [lm_verdict hv hm hk ok z f (by omega), Option.bind_some, jv_gp g48, nI_clamp (by omega), m2 k hk, if_pos e, nI_1]
      dsimp only
      unfold tv_
      rw [hvd]
      by_cases e1 : K k ≤ 1
      · have ed : tx_ (dr_ (K k)) = [] := by
          unfold dr_
          rw [if_neg (by omega), if_neg (by omega)]
          rfl
        rw [if_pos (show nI (K k) ≤ 1 from nI_le (b := 1) e1 (by decide)), show (10 : Int32) = nI 10 from rfl, wma (by omega) (by omega), Option.bind_some, ed, List.append_nil]
      · have ew : mw_ (K k + 2) = dr_ (K k) := by
          unfold dr_
          rcases (show K k = 2 ∨ K k = 3 by omega) with q | q <;> rw [q] <;> rfl
        have e2 : fn_M_addText (nI (z + (t0_ D P N (if ok = true then 3 else 4) k).length)) (pv_t f z (t0_ D P N (if ok = true then 3 else 4) k)) (nI (K k + 2)) = _ := ww_ (F := fun z f => fn_M_addText z f (nI (K k + 2))) (wm_text (K k + 2) (by omega)) (a := t0_ D P N (if ok = true then 3 else 4) k) (z := z) (f := f) (by rw [ew]; simp only [List.length_append]; omega)
        rw [if_neg (show ¬ nI (K k) ≤ 1 from nI_ge (a := 1) (by omega) (by omega)), jv_gp g48, show (2 : Int32) = nI 2 from rfl, nI_add, e2, Option.bind_some]
        dsimp only
        rw [ew, show (10 : Int32) = nI 10 from rfl, wma (by simp only [List.length_append]; omega) (by omega), Option.bind_some]
    cases ok with
    | true =>
      rw [if_pos ((par_ (K k) e).mpr (hok.mp rfl))]
      exact main
    | false =>
      rw [if_neg (fun q => by have := hok.mpr ((par_ (K k) e).mp q); cases this)]
      exact main
  · have era : pq_ra K P k = k + 1 := if_pos (by omega)
    rw [if_neg e] at hz ⊢
    rw [era, if_neg e, if_pos (show nI 4 = 4 from rfl)]
    unfold ts_ at hz ⊢
    have h1 : z + ((in_d (D k)).length + (tx_ 2).length + (es_ (N k)).length + 1) ≤ 3000 := by
      simp only [List.length_append] at hz
      exact hz
    have e2 : fn_M_addText (nI (z + (in_d (D k)).length)) (pv_t f z (in_d (D k))) (nI 6) = _ := ww_ (F := fun z f => fn_M_addText z f (nI 6)) (wm_text 6 (by omega)) (a := in_d (D k)) (z := z) (f := f) (by simp only [List.length_append]; show z + (_ + (tx_ 2).length) ≤ 3000; omega)
    have e3 : fn_M_addName si lt (nI (z + (in_d (D k) ++ tx_ (mw_ 6)).length)) (pv_t f z (in_d (D k) ++ tx_ (mw_ 6))) (nI k) = _ := ww_ (F := fun z f => fn_M_addName si lt z f (nI k)) (wm_name (iv_N hv k hk) (by omega) (m4 k hk) (m5 k hk)) (a := in_d (D k) ++ tx_ (mw_ 6)) (z := z) (f := f) (by simp only [List.length_append]; show z + (_ + (tx_ 2).length + _) ≤ 3000; omega)
    rw [show (0 : Int32) = nI 0 from rfl, pm_depth (g := 0) (by omega) hn (iv_5 hv) (iv_D hv) hm.2.1 hk, Option.bind_some, wm_spaces _ (by omega) z f (by omega), Option.bind_some]
    dsimp only
    rw [show (6 : Int32) = nI 6 from rfl, e2, Option.bind_some]
    dsimp only
    rw [e3, Option.bind_some]
    dsimp only
    rw [show (10 : Int32) = nI 10 from rfl, wma (by simp only [List.length_append]; show z + (_ + (tx_ 2).length + _) < 3000; omega) (by omega), Option.bind_some, nI_1, pu_rs]
    rfl
/-- the page's last line -/
def le_ (D P : Nat → Nat) (n L : Nat) : List Nat := if L = 0 then tp_ D P n 0 else tx_ 9 ++ [10]
theorem le_all (hn : n ≤ 24) : (le_ D P n L).length ≤ 10 ∧ tok_ (le_ D P n L) := by
  unfold le_
  by_cases e : L = 0
  · rw [if_pos e]
    have := tp_len (D := D) (P := P) (n := n) 0
    have h0 : pm_rd D 0 = 0 := rfl
    exact ⟨by omega, tok_tp hn 0⟩
  · rw [if_neg e]
    exact ⟨by decide, tok_app (tok_tx 9 (by omega)) tok_10⟩
theorem lc_last {ct lo oc : Int32} {kd dp su : Nat → Int32} {nm : Nat → Int64} (hv : iv_ n K D P N L O) (hc : rc_ n K D P N L O ct lo oc kd dp su nm) : ∀ (z : Nat) (f : Nat → Int32), z + (le_ D P n L).length ≤ 3000 → fn_W_writeEnd ct oc dp su (nI z) f = some (nI (z + (le_ D P n L).length), pv_t f z (le_ D P n L)) := by
  intro z f hz
  have hO3 := hv.1.2.2
  unfold fn_W_writeEnd fn_R_openSuites
  rw [Option.bind_some, hc.2.2.1]
  unfold le_ at hz ⊢
  by_cases e : L = 0
  · rw [if_pos e] at hz ⊢
    rw [hv.2.2.2.2.1.1 e, if_pos (show nI 0 = 0 from rfl), ← pu_r0, lc_plan hv hc (Nat.zero_le n) z f hz, Option.bind_some]
  · rw [if_neg e] at hz ⊢
    obtain ⟨i, hi⟩ : ∃ i, L = i + 1 := ⟨L - 1, by omega⟩
    have := (hv.2.2.2.2.1.2 i hi).2
    have hz2 : z + ((tx_ 9).length + 1) ≤ 3000 := by
      simp only [List.length_append] at hz
      exact hz
    rw [if_neg (nI_ne0 (by omega) (by omega)), wr_text 9 (by omega) z f (by omega), Option.bind_some]
    dsimp only
    rw [show (10 : Int32) = nI 10 from rfl, wra (by omega) (by omega), Option.bind_some]
theorem lm_end {cu pa re cl si lt : Nat → Int32} (hv : iv_ n K D P N L O) (hm : rm_ 0 n K P N cu pa re cl si lt) : ∀ (z : Nat) (f : Nat → Int32), z + (le_ D P n L).length ≤ 3000 → fb_M_write_174 cu pa re cl si lt (nI z) f (pu_r L) = some (nI (z + (le_ D P n L).length), nI (z + (le_ D P n L).length), pv_t f z (le_ D P n L)) := by
  intro z f hz
  have hn := iv_n hv
  have hL := hv.1.2.1
  unfold fb_M_write_174 fb_M_write_203
  unfold le_ at hz ⊢
  by_cases e : L = 0
  · rw [if_pos e] at hz ⊢
    have etp : tp_ D P n 0 = tx_ 8 ++ nu_ (rs_ P n 0) ++ [10] := rfl
    rw [etp] at hz ⊢
    have hz2 : z + ((tx_ 8).length + (nu_ (rs_ P n 0)).length + 1) ≤ 3000 := by
      simp only [List.length_append] at hz
      exact hz
    have e3 : fn_M_addNumber (nI (z + (tx_ (mw_ 7)).length)) (pv_t f z (tx_ (mw_ 7))) (nI (rs_ P n 0)) = _ := ww_ (F := fun z f => fn_M_addNumber z f (nI (rs_ P n 0))) (wm_num _ (rs_lt n 0 hn)) (a := tx_ (mw_ 7)) (z := z) (f := f) (by simp only [List.length_append]; show z + ((tx_ 8).length + _) ≤ 3000; omega)
    rw [if_neg (fun q => (pu_rpos (by omega)).mp q e), show (7 : Int32) = nI 7 from rfl, wm_text 7 (by omega) z f (by show z + (tx_ 8).length ≤ 3000; omega), Option.bind_some, show (0 : Int32) = nI 0 from rfl, ← pu_r0, pm_rowSize (g := 0) (by omega) hn (by omega) (iv_5 hv) hm.1 hm.2.1, Option.bind_some]
    dsimp only
    rw [show pu_c (fun k => decide (P k = 0)) n = rs_ P n 0 from rfl, e3, Option.bind_some]
    dsimp only
    rw [show (10 : Int32) = nI 10 from rfl, wma (by simp only [List.length_append]; show z + ((tx_ 8).length + _) < 3000; omega) (by omega), Option.bind_some]
    rfl
  · rw [if_neg e] at hz ⊢
    have hz2 : z + ((tx_ 9).length + 1) ≤ 3000 := by
      simp only [List.length_append] at hz
      exact hz
    rw [if_pos ((pu_rpos (by omega)).mpr e), show (8 : Int32) = nI 8 from rfl, wm_text 8 (by omega) z f (by show z + (tx_ 9).length ≤ 3000; omega), Option.bind_some]
    dsimp only
    rw [show (10 : Int32) = nI 10 from rfl, wma (by show z + (tx_ 9).length < 3000; omega) (by omega), Option.bind_some]
    rfl
end Pg
