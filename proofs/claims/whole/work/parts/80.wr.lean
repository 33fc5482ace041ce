/-! Pure rows: write, whole, on both sides. -/
section Wr
variable {n : Nat} {K D P : Nat → Nat} {N : Nat → List Nat} {L O : Nat} {ct lo oc : Int32} {kd dp su : Nat → Int32} {nm : Nat → Int64} {cu pa re cl si lt : Nat → Int32}
theorem wp_loop (hv : iv_ n K D P N L O) (hc : rc_ n K D P N L O ct lo oc kd dp su nm) (hm : rm_ 0 n K P N cu pa re cl si lt) :
    ∀ (d k r : Nat), k + d = n → r ≤ k → (∀ s, r = s + 1 → 4 ≤ K s) → (k < n → pq_on P r (P k)) → (k = n → pq_on P r L) →
      ∃ T : List Nat, T.length ≤ 83 * d + 51 * pm_rd D r + 10 ∧ tok_ T ∧ ∀ (z F1 F2 : Nat) (f : Nat → Int32), z + T.length ≤ 3000 → d < F1 → d < F2 →
        fl_W_writeAll_32 ct lo oc kd dp su nm F1 (nI z, f, pu_r r, nI k) = some (nI (z + T.length), pv_t f z T) ∧ fl_M_write_20 cu pa re cl si lt F2 (nI z, f, pu_r r, nI k) = some (nI (z + T.length), nI (z + T.length), pv_t f z T) := by
  have hn := iv_n hv
  have hL := hv.1.2.1
  intro d
  induction d with
  | zero =>
    intro k r hk hr h4 ha hb
    have ek : k = n := by omega
    obtain ⟨j, j1, j2⟩ := ch_min (hb ek)
    obtain ⟨a1, a2, a3⟩ := fe_all hv j r (by omega) j1 j2 h4
    have hrd := pg_rd hv (r := r) (by omega) h4
    obtain ⟨l1, l2⟩ := le_all (D := D) (P := P) (L := L) hn
    refine ⟨fe_ n K D P N j r ++ le_ D P n L, ?_, tok_app a3 l2, fun z F1 F2 f hz hF1 hF2 => ?_⟩
    · rw [List.length_append]
      omega
    · rw [List.length_append] at hz
      cases F1 with
      | zero => omega
      | succ F1 =>
        cases F2 with
        | zero => omega
        | succ F2 =>
          constructor
          · have e1 : fn_W_endSuites ct kd dp su nm (nI z) f (pu_r r) (pu_r L) = _ := lc_ends hv hc hL j r 0 4000 z f (by omega) (by omega) (by omega) j1 j2 (by omega)
            have e2 : fn_W_writeEnd ct oc dp su (nI (z + (fe_ n K D P N j r).length)) (pv_t f z (fe_ n K D P N j r)) = _ := ww_ (F := fun z f => fn_W_writeEnd ct oc dp su z f) (lc_last hv hc) (a := fe_ n K D P N j r) (z := z) (f := f) (by rw [List.length_append]; omega)
            rw [fs_W_writeAll_32]
            unfold fb_W_writeAll_32 fn_R_size fn_R_innermost
            rw [Option.bind_some, hc.1, if_pos (nI_le (by omega) (by omega)), Option.bind_some, hc.2.1, ← hc.1, e1, Option.bind_some]
            dsimp only
            rw [e2, Option.bind_some]
          · have e3 := lm_last hv hm j r 4000 z f (by omega) (by omega) j1 j2 (fun s s1 s2 => by
              have hs := pq_le (fun q hq => iv_5 hv q (by omega)) s2
              have k4 := ch_suite hv (by omega) h4 s2
              have k6 := iv_6 hv s (by omega)
              by_cases e6 : K s = 6
              · have := iv_13 hv s (by omega) e6
                omega
              · omega) (by omega)
            rw [fs_M_write_20]
            unfold fb_M_write_20
            rw [jv_gp (by decide), c0_, hm.1, if_pos (nI_le (by omega) (by omega)), e3, lm_end hv hm _ _ (by omega), pv_app, List.length_append, Nat.add_assoc]
  | succ d ih =>
    intro k r hk hr h4 ha hb
    have hkn : k < n := by omega
    obtain ⟨j, j1, j2⟩ := ch_min (ha hkn)
    obtain ⟨a1, a2, a3⟩ := fe_all hv j r (by omega) j1 j2 h4
    have hrd := pg_rd hv (r := r) (by omega) h4
    have hPk := iv_5 hv k hkn
    have hKk := iv_6 hv k hkn
    obtain ⟨p1, p2⟩ := pg_row hv hkn
    obtain ⟨T, t1, t2, t3⟩ := ih (k + 1) (pq_ra K P k) (by omega) p1 p2 (fun q => hv.2.2.2.2.2.2.2.2.2.1 k (by omega)) (fun q => hv.2.2.2.2.2.2.2.2.2.2.2 k q)
    have hll : (ln_ K D P N k).length + 51 * pm_rd D (pq_ra K P k) ≤ 83 + 51 * pm_rd D (P k) ∧ tok_ (ln_ K D P N k) := by
      have hDk := iv_D hv k hkn
      have h9 := iv_9 hv k hkn
      unfold ln_ pq_ra
      by_cases e : K k < 4
      · have := (tv_len hv k hkn).1
        rw [if_pos e, if_neg (show ¬ 4 ≤ K k by omega)]
        exact ⟨by omega, tok_tv hv k hkn⟩
      · have := ts_len hv k hkn
        have h2 := hv.2.2.2.1.2 k hkn (by omega)
        rw [if_neg e, if_pos (show 4 ≤ K k by omega)]
        have e3 : pm_rd D (k + 1) = D k + 1 := rfl
        exact ⟨by omega, tok_ts hv k hkn⟩
    refine ⟨fe_ n K D P N j r ++ ln_ K D P N k ++ T, ?_, tok_app (tok_app a3 hll.2) t2, fun z F1 F2 f hz hF1 hF2 => ?_⟩
    · simp only [List.length_append]
      have := hll.1
      omega
    · have hz2 : z + ((fe_ n K D P N j r).length + (ln_ K D P N k).length + T.length) ≤ 3000 := by
        simp only [List.length_append] at hz
        exact hz
      cases F1 with
      | zero => omega
      | succ F1 =>
        cases F2 with
        | zero => omega
        | succ F2 =>
          obtain ⟨u1, u2⟩ := t3 (z + (fe_ n K D P N j r ++ ln_ K D P N k).length) F1 F2 (pv_t f z (fe_ n K D P N j r ++ ln_ K D P N k)) (by simp only [List.length_append]; omega) (by omega) (by omega)
          rw [pv_app, Nat.add_assoc, ← List.length_append] at u1 u2
          constructor
          · have e1 : fn_W_endSuites ct kd dp su nm (nI z) f (pu_r r) (pu_r (P k)) = _ := lc_ends hv hc (by omega) j r 0 4000 z f (by omega) (by omega) (by omega) j1 j2 (by omega)
            rw [fs_W_writeAll_32]
            unfold fb_W_writeAll_32 fn_R_size
            rw [Option.bind_some, hc.1, if_neg (nI_ge hkn (by omega)), pc_suiteIn hn hkn hc.2.2.2.2.2.1, Option.bind_some, ← hc.1, e1, Option.bind_some, hc.1, pc_testIn hn hkn hKk hc.2.2.2.1, Option.bind_some, ← hc.1, nI_1]
            dsimp only
            by_cases e : K k < 4
            · have eln : ln_ K D P N k = tv_ K D P N k := if_pos e
              have era : pq_ra K P k = P k := if_neg (by omega)
              have e2 : fn_W_writeVerdict ct kd dp su nm (nI (z + (fe_ n K D P N j r).length)) (pv_t f z (fe_ n K D P N j r)) (nI k) = _ := ww_ (F := fun z f => fn_W_writeVerdict ct kd dp su nm z f (nI k)) (lc_verdict hv hc hkn) (a := fe_ n K D P N j r) (z := z) (f := f) (by rw [← eln]; simp only [List.length_append]; omega)
              rw [if_pos e, if_neg (show ¬ (1 : Int32) = 0 by decide), e2, Option.bind_some, Option.bind_some]
              dsimp only
              rw [era, eln] at u1
              rw [eln]
              exact u1
            · have eln : ln_ K D P N k = ts_ D N k := if_neg e
              have era : pq_ra K P k = k + 1 := if_pos (by omega)
              have e2 : fn_W_writeSubtest ct dp nm (nI (z + (fe_ n K D P N j r).length)) (pv_t f z (fe_ n K D P N j r)) (nI k) = _ := ww_ (F := fun z f => fn_W_writeSubtest ct dp nm z f (nI k)) (lc_sub hv hc hkn) (a := fe_ n K D P N j r) (z := z) (f := f) (by rw [← eln]; simp only [List.length_append]; omega)
              rw [if_neg e, if_pos rfl, e2, Option.bind_some]
              dsimp only
              rw [era, eln, pu_rs] at u1
              rw [eln]
              exact u1
          · have e3 := lm_ends (k20 := fl_M_write_20 cu pa re cl si lt F2) hv hm hkn rfl j r 4000 z f (by omega) (by omega) j1 j2 (fun s s1 s2 => by
              have hs := pq_le (fun q hq => iv_5 hv q (by omega)) s2
              have k4 := ch_suite hv (by omega) h4 s2
              have k6 := iv_6 hv s (by omega)
              by_cases e6 : K s = 6
              · have o1 := hv.2.2.2.2.2.2.1 s k (by omega) hkn e6
                have := pq_le (fun q hq => iv_5 hv q (by omega)) o1
                omega
              · omega) (by omega)
            rw [fs_M_write_20]
            unfold fb_M_write_20
            rw [jv_gp (by decide), c0_, hm.1, if_neg (nI_ge hkn (by omega)), e3, lm_node hv hm hkn _ _ (by omega), pv_app, Nat.add_assoc, ← List.length_append]
            exact u2
theorem st_write {bn : Int64} {zp : Int32} {ch : Nat → Int32} {bg ln : Int32} {na pg : Nat → Int32} (h : st_ bn zp ch ct lo oc kd dp su nm bg ln na cu pa re cl si lt pg) :
    ∃ o1 o2, fn_V_write ct lo oc kd dp su nm zp ch = some o1 ∧ fn_M_write cu pa re cl si lt ln pg = some o2 ∧ o1.1 = o2.1 ∧ st_ bn o1.2.1 o1.2.2 ct lo oc kd dp su nm bg o2.2.1 na cu pa re cl si lt o2.2.2 := by
  obtain ⟨n, K, D, P, N, L, O, B, T0, hv, hc, hm, hb, p1, p2, p3, p4, p5⟩ := h
  have hn := iv_n hv
  obtain ⟨T, t1, t2, t3⟩ := wp_loop hv hc hm n 0 0 (by omega) (Nat.le_refl 0) (fun s hs => by omega) (fun q => by
    have := iv_5 hv 0 q
    rw [show P 0 = 0 by omega]
    exact pq_refl _ _) (fun q => by
    rw [hv.2.2.2.2.2.2.2.2.2.2.1 q.symm]
    exact pq_refl _ _)
  have h0 : pm_rd D 0 = 0 := rfl
  have l0 : (tx_ 0).length = 14 := by decide
  have l1 : (tx_ 0 ++ [10]).length = 15 := by decide
  obtain ⟨u1, u2⟩ := t3 (0 + (tx_ 0 ++ [10]).length) 4000 4000 (pv_t pg 0 (tx_ 0 ++ [10])) (by omega) (by omega) (by omega)
  rw [pv_app, Nat.add_assoc, ← List.length_append] at u1 u2
  have e1 := wr_text 0 (by omega) 0 pg (by omega)
  have e2 := wm_text 0 (by omega) 0 pg (by show 0 + (tx_ 0).length ≤ 3000; omega)
  refine ⟨(nI (0 + (tx_ 0 ++ [10] ++ T).length), nI (0 + (tx_ 0 ++ [10] ++ T).length), pv_t pg 0 (tx_ 0 ++ [10] ++ T)), (nI (0 + (tx_ 0 ++ [10] ++ T).length), nI (0 + (tx_ 0 ++ [10] ++ T).length), pv_t pg 0 (tx_ 0 ++ [10] ++ T)), ?_, ?_, rfl, n, K, D, P, N, L, O, B, 0 + (tx_ 0 ++ [10] ++ T).length, hv, hc, hm, hb, ?_, rfl, rfl, rfl, ?_⟩
  · unfold fn_V_write fn_W_init fn_W_writeAll fn_P_shorten
    rw [Option.bind_some, p2, if_neg (show ¬ (0 : Int32) < 0 by decide), if_pos (show (0 : Int32) ≤ nI T0 from nI_pos' (by omega)), Option.bind_some, p4]
    dsimp only
    rw [show (0 : Int32) = nI 0 from rfl, e1, Option.bind_some]
    dsimp only
    rw [show (10 : Int32) = nI 10 from rfl, wra (by omega) (by omega), Option.bind_some, ← pu_r0]
    dsimp only
    rw [u1, Option.bind_some]
    rfl
  · unfold fn_M_write
    have e2' : fn_M_addText 0 pg 0 = _ := e2
    rw [e2', Option.bind_some]
    dsimp only
    rw [show (10 : Int32) = nI 10 from rfl, wma (by show 0 + (tx_ 0).length < 3000; omega) (by omega), Option.bind_some, ← pu_r0]
    dsimp only
    exact u2
  · rw [List.length_append]
    omega
  · intro i hi
    rw [Nat.zero_add] at hi
    have hr : (tx_ 0 ++ [10] ++ T).getD i 0 = 10 ∨ (32 ≤ (tx_ 0 ++ [10] ++ T).getD i 0 ∧ (tx_ 0 ++ [10] ++ T).getD i 0 ≤ 126) := by
      rw [List.getD_eq_getElem?_getD, List.getElem?_eq_getElem hi]
      exact tok_app (tok_app (tok_tx 0 (by omega)) tok_10) t2 _ (List.getElem_mem hi)
    refine ⟨_, hr, ?_⟩
    have := pv_t_in (f := pg) (a := 0) (l := tx_ 0 ++ [10] ++ T) hi
    rw [Nat.zero_add] at this
    exact this
end Wr
