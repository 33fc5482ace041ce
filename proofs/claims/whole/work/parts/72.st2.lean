/-! Pure rows: adding, closing, the page's own calls, attempts. -/
theorem pz_0 {α : Type} {k : Option α} : jv_gd (jv_zb 0) k = k := rfl
theorem pz_1 {α : Type} {k : Option α} : jv_gd (jv_zb 1) k = k := rfl
section St
variable {bn : Int64} {zp : Int32} {ch : Nat → Int32} {ct lo oc : Int32} {kd dp su : Nat → Int32} {nm : Nat → Int64} {bg ln : Int32} {na cu pa re cl si lt pg : Nat → Int32}
theorem st_add {n : Nat} {K D P : Nat → Nat} {N : Nat → List Nat} {L O : Nat} {B : List Nat} {T : Nat} (hv : iv_ n K D P N L O) (hc : rc_ n K D P N L O ct lo oc kd dp su nm) (hm : rm_ 0 n K P N cu pa re cl si lt) (hb : pu_ok B ∧ bn = lN (pu_k B) ∧ bg = nI B.length ∧ ∀ i, i < B.length → na i = nI (B.getD i 0)) (hp : T ≤ 3000 ∧ zp = nI T ∧ ln = nI T ∧ ch = pg ∧ st_pg pg T) (hn : n < 24) {k w : Nat} (hk : (k < 4 ∧ w = k) ∨ (k = 6 ∧ w = 4 ∧ O < 3)) :
    ∃ o1 o2, fn_V_addWithBegunName bn ct lo oc kd dp su nm (nI k) = some o1 ∧ fn_M_addNamed na bg cu pa re cl si lt (nI w) = some o2 ∧ o1.1 = o2.1 ∧ st_ o1.2.1 zp ch o1.2.2.1 o1.2.2.2.1 o1.2.2.2.2.1 o1.2.2.2.2.2.1 o1.2.2.2.2.2.2.1 o1.2.2.2.2.2.2.2.1 o1.2.2.2.2.2.2.2.2 o2.2.1 ln na o2.2.2.1 o2.2.2.2.1 o2.2.2.2.2.1 o2.2.2.2.2.2.1 o2.2.2.2.2.2.2.1 o2.2.2.2.2.2.2.2 pg := by
  obtain ⟨b1, b2, b3, b4⟩ := hb
  obtain ⟨c', l', o', kd', dp', su', nm', e1, e2⟩ := px_add (k := k) (l := B) hc hn hv.1.2.2 (by omega)
  have e3 := pm_addNamed (x := nI w) (pa := pa) (si := si) (lt := lt) hn (iv_6 hv) (iv_13 hv) (iv_12 hv) hm.1 hm.2.2.1 hm.2.2.2.1 b1 b3 b4
  refine ⟨(nI n, 0, c', l', o', kd', dp', su', nm'), _, ?_, e3, rfl, n + 1, pq_up K n k, pq_up D n O, pq_up P n L, pq_up N n B, _, _, [], T, iv_add hv hn b1 (by omega), e2, ?_, ⟨⟨by decide, fun c hc => by cases hc⟩, rfl, rfl, fun i hi => absurd hi (Nat.not_lt_zero _)⟩, hp⟩
  · unfold fn_V_addWithBegunName
    rw [b2, e1, Option.bind_some]
    show (if nI n < 0 then _ else _) = _
    rw [if_neg (nI_pos (by omega))]
  · have z := px_ref (g := 0) (k := k) (w := w) (L := L) (l := B) hm (by omega) hn (by omega) b1 (fun q hq => (iv_N hv q hq).1)
    rw [Nat.mul_zero, Nat.zero_add] at z
    exact z
theorem st_open (h : st_ bn zp ch ct lo oc kd dp su nm bg ln na cu pa re cl si lt pg) :
    ∃ o1 o2, fn_V_open bn ct lo oc kd dp su nm = some o1 ∧ fn_M_open na bg cu pa re cl si lt = some o2 ∧ o1.1 = o2.1 ∧ st_ o1.2.1 zp ch o1.2.2.1 o1.2.2.2.1 o1.2.2.2.2.1 o1.2.2.2.2.2.1 o1.2.2.2.2.2.2.1 o1.2.2.2.2.2.2.2.1 o1.2.2.2.2.2.2.2.2 o2.2.1 ln na o2.2.2.1 o2.2.2.2.1 o2.2.2.2.2.1 o2.2.2.2.2.2.1 o2.2.2.2.2.2.2.1 o2.2.2.2.2.2.2.2 pg := by
  obtain ⟨n, K, D, P, N, L, O, B, T, hv, hc, hm, hb, hp⟩ := id h
  have hn := iv_n hv
  have h3 := hv.1.2.2
  have h2 := hv.1.2.1
  unfold fn_V_open fn_M_open
  rw [iv_inner hv hm, Option.bind_some, jv_gp (by decide), c0_, hm.1]
  have full : (n = 24 ∨ O = 3) → fn_V_addWithBegunName bn ct lo oc kd dp su nm 6 = some (-2, bn, ct, lo, oc, kd, dp, su, nm) := by
    intro q
    unfold fn_V_addWithBegunName
    rw [show (6 : Int32) = nI 6 from rfl, px_full (K6 := 6) (O := O) (n := n) (by omega) h3 hn hc.1 hc.2.2.1 (by omega), Option.bind_some]
    rfl
  by_cases e24 : n = 24
  · rw [full (Or.inl e24), Option.bind_some, if_pos (by rw [e24]; rfl)]
    exact ⟨_, _, rfl, rfl, rfl, h⟩
  · rw [if_neg (show ¬ nI n = 24 from fun q => e24 ((nI_eq (b := 24) (by omega) (by omega)).mp q))]
    cases L with
    | zero =>
      have hO := hv.2.2.2.2.1.1 rfl
      obtain ⟨o1, o2, a1, a2, a3, a4⟩ := st_add (k := 6) (w := 4) hv hc hm hb hp (by omega) (by omega)
      have a1' : fn_V_addWithBegunName bn ct lo oc kd dp su nm 6 = some o1 := a1
      have a2' : fn_M_addNamed na bg cu pa re cl si lt 4 = some o2 := a2
      rw [a1', Option.bind_some, if_pos (by rw [pu_r0]; decide), a2', Option.bind_some]
      exact ⟨_, _, rfl, rfl, a3, a4⟩
    | succ i =>
      obtain ⟨i1, i2⟩ := hv.2.2.2.2.1.2 i rfl
      have hi : i < n := by omega
      have d2 := hv.2.2.2.1.2 i hi (by omega)
      have d3 := iv_9 hv i hi
      rw [pu_rs, if_neg (nI_pos (by omega)), show (0 : Int32) = nI 0 from rfl, pm_depth (g := 0) (by omega) hn (iv_5 hv) (iv_D hv) hm.2.1 hi, Option.bind_some]
      by_cases e : D i = 2
      · rw [if_pos (by rw [e]; rfl), full (Or.inr (by omega)), Option.bind_some]
        exact ⟨_, _, rfl, rfl, rfl, h⟩
      · obtain ⟨o1, o2, a1, a2, a3, a4⟩ := st_add (k := 6) (w := 4) hv hc hm hb hp (by omega) (by omega)
        have a1' : fn_V_addWithBegunName bn ct lo oc kd dp su nm 6 = some o1 := a1
        have a2' : fn_M_addNamed na bg cu pa re cl si lt 4 = some o2 := a2
        rw [if_neg (show ¬ nI (D i) = 2 from fun q => e ((nI_eq (b := 2) (by omega) (by omega)).mp q)), a1', Option.bind_some, a2', Option.bind_some]
        exact ⟨_, _, rfl, rfl, a3, a4⟩
theorem st_test (h : st_ bn zp ch ct lo oc kd dp su nm bg ln na cu pa re cl si lt pg) (x : Int32) :
    ∃ o1 o2, fn_V_test bn ct lo oc kd dp su nm x = some o1 ∧ fn_M_test na bg cu pa re cl si lt x = some o2 ∧ o1.1 = o2.1 ∧ st_ o1.2.1 zp ch o1.2.2.1 o1.2.2.2.1 o1.2.2.2.2.1 o1.2.2.2.2.2.1 o1.2.2.2.2.2.2.1 o1.2.2.2.2.2.2.2.1 o1.2.2.2.2.2.2.2.2 o2.2.1 ln na o2.2.2.1 o2.2.2.2.1 o2.2.2.2.2.1 o2.2.2.2.2.2.1 o2.2.2.2.2.2.2.1 o2.2.2.2.2.2.2.2 pg := by
  obtain ⟨n, K, D, P, N, L, O, B, T, hv, hc, hm, hb, hp⟩ := id h
  have hn := iv_n hv
  unfold fn_V_test fn_M_test
  by_cases e0 : x < 0
  · rw [if_pos e0, if_pos e0]
    exact ⟨_, _, rfl, rfl, rfl, h⟩
  · rw [if_neg e0, if_neg e0]
    by_cases e3 : x ≤ 3
    · obtain ⟨k, hk, rfl⟩ := nI_of2 (M := 3) (n := 3) rfl e0 e3
      rw [if_pos e3, if_pos e3, jv_gp (by decide), c0_, hm.1]
      by_cases e24 : n = 24
      · rw [if_pos (show nI n = 24 by rw [e24]; rfl)]
        have full : fn_V_addWithBegunName bn ct lo oc kd dp su nm (nI k) = some (-2, bn, ct, lo, oc, kd, dp, su, nm) := by
          unfold fn_V_addWithBegunName
          rw [px_full (K6 := k) (O := O) (n := n) (by omega) hv.1.2.2 hn hc.1 hc.2.2.1 (Or.inl e24), Option.bind_some]
          rfl
        rw [full, Option.bind_some]
        exact ⟨_, _, rfl, rfl, rfl, h⟩
      · rw [if_neg (show ¬ nI n = 24 from fun q => e24 ((nI_eq (b := 24) (by omega) (by omega)).mp q))]
        obtain ⟨o1, o2, a1, a2, a3, a4⟩ := st_add (k := k) (w := k) hv hc hm hb hp (by omega) (by omega)
        rw [a1, Option.bind_some, a2, Option.bind_some]
        exact ⟨_, _, rfl, rfl, a3, a4⟩
    · rw [if_neg e3, if_neg e3]
      exact ⟨_, _, rfl, rfl, rfl, h⟩
theorem st_close (h : st_ bn zp ch ct lo oc kd dp su nm bg ln na cu pa re cl si lt pg) :
    ∃ o1 o2, fn_V_close ct su lo oc kd = some o1 ∧ fn_M_close cu re cl = some o2 ∧ o1.1 = o2.1 ∧ st_ bn zp ch ct o1.2.1 o1.2.2.1 o1.2.2.2 dp su nm bg ln na cu pa re o2.2 si lt pg := by
  obtain ⟨n, K, D, P, N, L, O, B, T, hv, hc, hm, hb, hp⟩ := id h
  unfold fn_V_close fn_M_close
  rw [iv_inner hv hm, Option.bind_some]
  cases L with
  | zero =>
    rw [px_closeNo hc, Option.bind_some, if_neg (show ¬ 0 ≤ pu_r 0 by rw [pu_r0]; decide)]
    dsimp only
    rw [pz_0]
    exact ⟨_, _, rfl, rfl, rfl, h⟩
  | succ i =>
    obtain ⟨i1, i2⟩ := iv_12 hv i rfl
    have hn := iv_n hv
    obtain ⟨k, l', o', kd', hk, e1, e2⟩ := px_close hc hv
    have z := px_refClose (k := k) hm i1 (by omega) (by omega)
    rw [Nat.mul_zero, Nat.zero_add] at z
    rw [e1, Option.bind_some, pu_rs, if_pos (nI_pos' (by omega)), jv_gp (pu_g (by omega) (by decide)), nI_clamp (by omega), pv_z1]
    dsimp only
    rw [pz_1]
    exact ⟨_, _, rfl, rfl, rfl, n, _, D, P, N, _, _, B, T, iv_close hv hk, e2, z, hb, hp⟩
theorem st_length (h : st_ bn zp ch ct lo oc kd dp su nm bg ln na cu pa re cl si lt pg) : ∃ o, fn_V_length zp = some o ∧ fn_M_length ln = some o := by
  obtain ⟨n, K, D, P, N, L, O, B, T, hv, hc, hm, hb, p1, p2, p3, p4⟩ := h
  unfold fn_V_length fn_P_size fn_M_length
  exact ⟨nI T, by rw [p2]; rfl, by rw [p3]⟩
theorem st_at (h : st_ bn zp ch ct lo oc kd dp su nm bg ln na cu pa re cl si lt pg) (x : Int32) : ∃ o, fn_V_at zp ch x = some o ∧ fn_M_at ln pg x = some o := by
  obtain ⟨n, K, D, P, N, L, O, B, T, hv, hc, hm, hb, p1, p2, p3, p4, p5⟩ := h
  unfold fn_V_at fn_P_codeAt fn_M_at
  rw [p2, p3, p4]
  rcases pk_ix x (n := T) (by omega) with q | q | ⟨j, hj, rfl⟩
  · rw [if_pos q]
    exact ⟨_, rfl, rfl⟩
  · by_cases e : x < 0
    · rw [if_pos e]
      exact ⟨_, rfl, rfl⟩
    · rw [if_neg e, if_pos q]
      exact ⟨_, rfl, rfl⟩
  · rw [if_neg (nI_pos (by omega)), if_neg (nI_ge hj (by omega)), jv_gp (pu_g (by omega) (by decide))]
    exact ⟨_, rfl, rfl⟩
theorem st_cut (h : st_ bn zp ch ct lo oc kd dp su nm bg ln na cu pa re cl si lt pg) (x : Int32) : ∃ o1 o2, fn_V_cut zp x = some o1 ∧ fn_M_cut ln x = some o2 ∧ o1.1 = o2.1 ∧ st_ bn o1.2 ch ct lo oc kd dp su nm bg o2.2 na cu pa re cl si lt pg := by
  obtain ⟨n, K, D, P, N, L, O, B, T, hv, hc, hm, hb, p1, p2, p3, p4, p5⟩ := id h
  unfold fn_V_cut fn_P_shorten fn_M_cut
  by_cases e : x < 0
  · rw [if_pos e, if_pos e, Option.bind_some]
    dsimp only
    rw [pz_0]
    exact ⟨_, _, rfl, rfl, rfl, h⟩
  · rw [if_neg e, if_neg e]
    by_cases e2 : x ≤ nI T
    · obtain ⟨j, hj, rfl⟩ := nI_of2 (n := T) (nI_toInt (by omega)) e e2
      rw [p2, p3, if_pos e2, Option.bind_some]
      dsimp only
      rw [pz_1]
      exact ⟨_, _, rfl, rfl, rfl, n, K, D, P, N, L, O, B, j, hv, hc, hm, hb, by omega, rfl, rfl, p4, fun i hi => p5 i (by omega)⟩
    · rw [p2, p3, if_neg e2, Option.bind_some]
      dsimp only
      rw [pz_0]
      exact ⟨_, _, rfl, rfl, rfl, n, K, D, P, N, L, O, B, T, hv, hc, hm, hb, p1, rfl, rfl, p4, p5⟩
theorem st_fits (x : Int32) : fn_V_isOfPages x = fn_M_fits x ∧ (∃ b : Bool, fn_M_fits x = some (pu_b b) ∧ (b = true → ∃ c : Nat, (c = 10 ∨ (32 ≤ c ∧ c ≤ 126)) ∧ x = nI c)) := by
  unfold fn_V_isOfPages fn_V_isPlain fn_M_fits
  by_cases e : x = 10
  · rw [if_pos e, if_pos e]
    exact ⟨rfl, true, rfl, fun _ => ⟨10, Or.inl rfl, e⟩⟩
  · rw [if_neg e, if_neg e]
    by_cases e1 : x < 32
    · rw [if_pos e1]
      exact ⟨rfl, false, rfl, fun q => by cases q⟩
    · rw [if_neg e1]
      by_cases e2 : 126 < x
      · rw [if_pos e2]
        exact ⟨rfl, false, rfl, fun q => by cases q⟩
      · rw [if_neg e2]
        refine ⟨rfl, true, rfl, fun _ => ?_⟩
        obtain ⟨c, hc, rfl⟩ := nI_of2 (M := 126) (n := 126) rfl (fun q => e1 (Int32.lt_trans q (by decide))) (Int32.not_lt.mp e2)
        refine ⟨c, Or.inr ⟨?_, hc⟩, rfl⟩
        rcases Nat.lt_or_ge c 32 with z | z
        · exact absurd (nI_lt (b := 32) z (by decide)) e1
        · exact z
theorem st_put (h : st_ bn zp ch ct lo oc kd dp su nm bg ln na cu pa re cl si lt pg) (x : Int32) : ∃ o1 o2, fn_V_put zp ch x = some o1 ∧ fn_M_put ln pg x = some o2 ∧ o1.1 = o2.1 ∧ st_ bn o1.2.1 o1.2.2 ct lo oc kd dp su nm bg o2.2.1 na cu pa re cl si lt o2.2.2 := by
  obtain ⟨n, K, D, P, N, L, O, B, T, hv, hc, hm, hb, p1, p2, p3, p4, p5⟩ := id h
  obtain ⟨f1, b, f2, f3⟩ := st_fits x
  unfold fn_V_put fn_M_put
  rw [f1, f2, Option.bind_some, Option.bind_some]
  cases b with
  | false =>
    rw [if_pos (by decide), if_pos (by decide)]
    exact ⟨_, _, rfl, rfl, rfl, h⟩
  | true =>
    obtain ⟨c, c1, rfl⟩ := f3 rfl
    rw [if_neg (by decide), if_neg (by decide), p2, p3, p4]
    unfold fn_P_add
    by_cases e : T = 3000
    · rw [if_neg (show ¬ nI T < 3000 from nI_nlt (b := 3000) (by omega) (by omega)), if_pos (show nI T = 3000 by rw [e]; rfl), Option.bind_some]
      exact ⟨_, _, rfl, rfl, rfl, n, K, D, P, N, L, O, B, T, hv, hc, hm, hb, p1, rfl, rfl, rfl, p5⟩
    · rw [if_pos (show nI T < 3000 from nI_lt (b := 3000) (by omega) (by decide)), if_neg (show ¬ nI T = 3000 from fun q => e ((nI_eq (b := 3000) (by omega) (by omega)).mp q)), jv_gp (pu_g (by omega) (by decide)), Option.bind_some, nI_clamp (by omega), nI_1, pv_nar (by omega)]
      refine ⟨_, _, rfl, rfl, rfl, n, K, D, P, N, L, O, B, T + 1, hv, hc, hm, hb, by omega, rfl, rfl, rfl, fun i hi => ?_⟩
      by_cases ei : i = T
      · exact ⟨c, c1, by rw [ei]; exact pk_us⟩
      · obtain ⟨d, d1, d2⟩ := p5 i (by omega)
        exact ⟨d, d1, by rw [← d2]; exact pk_un ei⟩
theorem st_poke (h : st_ bn zp ch ct lo oc kd dp su nm bg ln na cu pa re cl si lt pg) (x y : Int32) : ∃ o1 o2, fn_V_poke zp ch x y = some o1 ∧ fn_M_poke ln pg x y = some o2 ∧ o1.1 = o2.1 ∧ st_ bn zp o1.2 ct lo oc kd dp su nm bg ln na cu pa re cl si lt o2.2 := by
  obtain ⟨n, K, D, P, N, L, O, B, T, hv, hc, hm, hb, p1, p2, p3, p4, p5⟩ := id h
  obtain ⟨f1, b, f2, f3⟩ := st_fits y
  have keep : ∀ r : Int32, ∃ o1 o2 : _, (some (r, ch) : Option (Int32 × (Nat → Int32))) = some o1 ∧ (some (r, pg) : Option (Int32 × (Nat → Int32))) = some o2 ∧ o1.1 = o2.1 ∧ st_ bn zp o1.2 ct lo oc kd dp su nm bg ln na cu pa re cl si lt o2.2 := fun r => ⟨_, _, rfl, rfl, rfl, h⟩
  unfold fn_V_poke fn_M_poke
  rw [f1, f2, Option.bind_some, Option.bind_some]
  cases b with
  | false =>
    rw [if_pos (show pu_b false = 0 by decide), if_pos (show pu_b false = 0 by decide)]
    by_cases e : x < 0
    · rw [if_pos e]; exact keep 0
    · rw [if_neg e]
      by_cases e2 : ln ≤ x
      · rw [if_pos e2]; exact keep 0
      · rw [if_neg e2]; exact keep 0
  | true =>
    obtain ⟨c, c1, rfl⟩ := f3 rfl
    rw [if_neg (show ¬ pu_b true = 0 by decide), if_neg (show ¬ pu_b true = 0 by decide)]
    unfold fn_P_replace
    rw [p2, p3]
    rcases pk_ix x (n := T) (by omega) with q | q | ⟨j, hj, rfl⟩
    · rw [if_pos q, if_pos q, Option.bind_some]
      have := keep 0
      rw [p2, p3] at this
      exact this
    · by_cases e : x < 0
      · rw [if_pos e, if_pos e, Option.bind_some]
        have := keep 0
        rw [p2, p3] at this
        exact this
      · rw [if_neg e, if_neg e, if_pos q, if_neg (Int32.not_lt.mpr q), Option.bind_some]
        have := keep 0
        rw [p2, p3] at this
        exact this
    · rw [if_neg (nI_pos (by omega)), if_neg (nI_pos (by omega)), if_pos (nI_lt hj (by omega)), if_neg (nI_ge hj (by omega)), jv_gp (pu_g (by omega) (by decide)), jv_gp (pu_g (by omega) (by decide)), Option.bind_some, nI_clamp (by omega), pv_nar (by omega), p4]
      refine ⟨_, _, rfl, rfl, rfl, n, K, D, P, N, L, O, B, T, hv, hc, hm, hb, p1, rfl, rfl, rfl, fun i hi => ?_⟩
      by_cases ei : i = j
      · exact ⟨c, c1, by rw [ei]; exact pk_us⟩
      · obtain ⟨d, d1, d2⟩ := p5 i hi
        exact ⟨d, d1, by rw [← d2]; exact pk_un ei⟩
end St
