/-! Pure rows: the two sides hold one report, one begun name and one page; the short calls keep that. -/
def st_pg (pg : Nat → Int32) (T : Nat) : Prop := ∀ i, i < T → ∃ c : Nat, (c = 10 ∨ (32 ≤ c ∧ c ≤ 126)) ∧ pg i = nI c
def st_ (bn : Int64) (zp : Int32) (ch : Nat → Int32) (ct lo oc : Int32) (kd dp su : Nat → Int32) (nm : Nat → Int64) (bg ln : Int32) (na cu pa re cl si lt pg : Nat → Int32) : Prop :=
  ∃ (n : Nat) (K D P : Nat → Nat) (N : Nat → List Nat) (L O : Nat) (B : List Nat) (T : Nat), iv_ n K D P N L O ∧ rc_ n K D P N L O ct lo oc kd dp su nm ∧ rm_ 0 n K P N cu pa re cl si lt ∧
    (pu_ok B ∧ bn = lN (pu_k B) ∧ bg = nI B.length ∧ ∀ i, i < B.length → na i = nI (B.getD i 0)) ∧ (T ≤ 3000 ∧ zp = nI T ∧ ln = nI T ∧ ch = pg ∧ st_pg pg T)
section Iv
variable {n : Nat} {K D P : Nat → Nat} {N : Nat → List Nat} {L O : Nat}
theorem iv_n (h : iv_ n K D P N L O) : n ≤ 24 := h.1.1
theorem iv_6 (h : iv_ n K D P N L O) : ∀ k, k < n → K k ≤ 6 := h.2.1.1
theorem iv_5 (h : iv_ n K D P N L O) : ∀ k, k < n → P k ≤ k := h.2.1.2.1
theorem iv_N (h : iv_ n K D P N L O) : ∀ k, k < n → pu_ok (N k) := h.2.1.2.2
theorem iv_9 (h : iv_ n K D P N L O) : ∀ k, k < n → D k ≤ 3 := h.2.2.2.1.1
theorem iv_D (h : iv_ n K D P N L O) : ∀ k, k < n → D k = pm_rd D (P k) := by
  intro k hk
  obtain ⟨h7, h8⟩ := h.2.2.1
  cases e : P k with
  | zero => exact h7 k hk e
  | succ i => exact (h8 k i hk e).2
theorem iv_12 (h : iv_ n K D P N L O) : ∀ i, L = i + 1 → i < n ∧ K i = 6 := fun i hi => ⟨by have := h.1.2.1; omega, (h.2.2.2.2.1.2 i hi).1⟩
theorem iv_13 (h : iv_ n K D P N L O) : ∀ a, a < n → K a = 6 → a + 1 ≤ L := by
  intro a ha h6
  have h2 := h.1.2.1
  exact pq_le (fun k hk => iv_5 h k (by omega)) ((h.2.2.2.2.2.1 a ha).mp h6)
theorem iv_inner (h : iv_ n K D P N L O) {cu pa re cl si lt : Nat → Int32} (hm : rm_ 0 n K P N cu pa re cl si lt) : fn_M_innermost cu re cl 0 = some (pu_r L) := by
  have e := pm_inner (g := 0) (by omega) (iv_n h) (iv_6 h) hm.1 hm.2.2.1 hm.2.2.2.1
  rw [pu_l_is (L := L) (fun a ha q => iv_13 h a ha (by simpa using q)) (fun i hi => ⟨(iv_12 h i hi).1, by simpa using (iv_12 h i hi).2⟩)] at e
  exact e
end Iv
theorem c0_ : ((0 : Int32).toNatClampNeg) = 0 := rfl
theorem st_letter {bn : Int64} {zp : Int32} {ch : Nat → Int32} {ct lo oc : Int32} {kd dp su : Nat → Int32} {nm : Nat → Int64} {bg ln : Int32} {na cu pa re cl si lt pg : Nat → Int32} (h : st_ bn zp ch ct lo oc kd dp su nm bg ln na cu pa re cl si lt pg) (x : Int32) :
    ∃ o1 o2, fn_V_letter bn (x.toUInt32 % 65536).toInt32 = some o1 ∧ fn_M_letter bg na (x.toUInt32 % 65536).toInt32 = some o2 ∧ o1.1 = o2.1 ∧ st_ o1.2 zp ch ct lo oc kd dp su nm o2.2.1 ln o2.2.2 cu pa re cl si lt pg := by
  obtain ⟨n, K, D, P, N, L, O, B, T, hv, hc, hm, ⟨b1, b2, b3, b4⟩, hp⟩ := h
  have b6 := b1.1
  rw [pk_char]
  obtain ⟨w, hw, ew⟩ : ∃ w, w < 65536 ∧ w = x.toBitVec.toNat % 65536 := ⟨_, by omega, rfl⟩
  rw [← ew]
  have keep : ∀ r : Int32, ∃ o1 o2 : _, (some (r, bn) : Option (Int32 × Int64)) = some o1 ∧ (some (r, bg, na) : Option (Int32 × Int32 × (Nat → Int32))) = some o2 ∧ o1.1 = o2.1 ∧ st_ o1.2 zp ch ct lo oc kd dp su nm o2.2.1 ln o2.2.2 cu pa re cl si lt pg := fun r => ⟨_, _, rfl, rfl, rfl, n, K, D, P, N, L, O, B, T, hv, hc, hm, ⟨b1, b2, b3, b4⟩, hp⟩
  unfold fn_V_letter fn_M_letter fn_V_isPlain
  rw [b2, pn_sizeOf b1, Option.bind_some, ← b2]
  by_cases e1 : w < 32
  · rw [if_pos (show nI w < 32 from nI_lt (b := 32) e1 (by decide)), Option.bind_some, if_pos rfl, if_pos (show nI w < 32 from nI_lt (b := 32) e1 (by decide))]
    exact keep 0
  · rw [if_neg (show ¬ nI w < 32 from nI_nlt (b := 32) (by omega) (by omega)), if_neg (show ¬ nI w < 32 from nI_nlt (b := 32) (by omega) (by omega))]
    by_cases e2 : 126 < w
    · rw [if_pos (show 126 < nI w from nI_lt (a := 126) e2 (by omega)), Option.bind_some, if_pos rfl, if_pos (show 126 < nI w from nI_lt (a := 126) e2 (by omega))]
      exact keep 0
    · rw [if_neg (show ¬ 126 < nI w from nI_nlt (a := 126) (by omega) (by decide)), Option.bind_some, if_neg (by decide), if_neg (show ¬ 126 < nI w from nI_nlt (a := 126) (by omega) (by decide)), b3]
      by_cases e3 : B.length = 6
      · rw [if_neg (show ¬ nI B.length < 6 from nI_nlt (b := 6) (by omega) (by omega)), if_pos (show nI B.length = 6 by rw [e3]; rfl), ← b3]
        exact keep 0
      · rw [if_pos (show nI B.length < 6 from nI_lt (b := 6) (by omega) (by decide)), if_neg (show ¬ nI B.length = 6 from fun q => e3 ((nI_eq (b := 6) (by omega) (by omega)).mp q)), b2, pn_with b1 (by omega) (by omega), Option.bind_some, jv_gp (pu_g (by omega) (by decide)), nI_clamp (by omega), nI_1, pv_nar hw]
        refine ⟨_, _, rfl, rfl, rfl, n, K, D, P, N, L, O, B ++ [w], T, hv, hc, hm, ⟨pn_snoc b1 (by omega) (by omega) (by omega), rfl, by rw [List.length_append]; rfl, fun i hi => ?_⟩, hp⟩
        show upd na B.length (nI w) i = nI ((B ++ [w]).getD i 0)
        rw [List.length_append] at hi
        have hi : i < B.length + 1 := hi
        by_cases e : i = B.length
        · rw [e, pk_us, List.getD_eq_getElem?_getD, List.getElem?_append_right (by omega), Nat.sub_self]
          rfl
        · rw [pk_un e, b4 i (by omega), List.getD_eq_getElem?_getD, List.getD_eq_getElem?_getD, List.getElem?_append_left (by omega)]
theorem st_nodes {bn : Int64} {zp : Int32} {ch : Nat → Int32} {ct lo oc : Int32} {kd dp su : Nat → Int32} {nm : Nat → Int64} {bg ln : Int32} {na cu pa re cl si lt pg : Nat → Int32} (h : st_ bn zp ch ct lo oc kd dp su nm bg ln na cu pa re cl si lt pg) :
    ∃ o, fn_V_nodes ct = some o ∧ fn_M_nodes cu = some o := by
  obtain ⟨n, K, D, P, N, L, O, B, T, hv, hc, hm, hb, hp⟩ := h
  refine ⟨nI n, ?_, ?_⟩
  · unfold fn_V_nodes fn_R_size
    rw [hc.1, Option.bind_some]
  · unfold fn_M_nodes
    rw [jv_gp (by decide), c0_, hm.1]
theorem st_reset {bn : Int64} {zp : Int32} {ch : Nat → Int32} {ct lo oc : Int32} {kd dp su : Nat → Int32} {nm : Nat → Int64} {bg ln : Int32} {na cu pa re cl si lt pg : Nat → Int32} (h : st_ bn zp ch ct lo oc kd dp su nm bg ln na cu pa re cl si lt pg) :
    ∃ o1 o2, fn_V_reset ct lo oc = some o1 ∧ fn_M_reset cu = some o2 ∧ st_ bn zp ch o1.1 o1.2.1 o1.2.2 kd dp su nm bg ln na o2 pa re cl si lt pg := by
  obtain ⟨n, K, D, P, N, L, O, B, T, hv, hc, hm, hb, hp⟩ := h
  refine ⟨(0, -1, 0), upd cu 0 0, ?_, ?_, 0, K, D, P, N, 0, 0, B, T, iv_new K D P N, ⟨rfl, rfl, rfl, fun k q => by omega, fun k q => by omega, fun k q => by omega, fun k q => by omega⟩, ⟨pk_us, fun k q => by omega, fun k q => by omega, fun k q => by omega, fun k q => by omega, fun k q => by omega⟩, hb, hp⟩
  · unfold fn_V_reset fn_R_removeAll
    rw [Option.bind_some]
  · unfold fn_M_reset
    rw [jv_gp (by decide), c0_]
theorem st_kind {bn : Int64} {zp : Int32} {ch : Nat → Int32} {ct lo oc : Int32} {kd dp su : Nat → Int32} {nm : Nat → Int64} {bg ln : Int32} {na cu pa re cl si lt pg : Nat → Int32} (h : st_ bn zp ch ct lo oc kd dp su nm bg ln na cu pa re cl si lt pg) (x : Int32) :
    ∃ o, fn_V_kind ct kd x = some o ∧ fn_M_kind cu pa re cl x = some o := by
  obtain ⟨n, K, D, P, N, L, O, B, T, hv, hc, hm, hb, hp⟩ := h
  have hn := iv_n hv
  have out : (x < 0 ∨ nI n ≤ x) → ∃ o, fn_V_kind ct kd x = some o ∧ fn_M_kind cu pa re cl x = some o := by
    intro q
    refine ⟨-1, ?_, ?_⟩
    · unfold fn_V_kind
      rw [hc.1, pc_hasNo q, Option.bind_some, if_pos rfl]
    · unfold fn_M_kind
      rw [pm_nodeNo hm.1 q, Option.bind_some, if_pos rfl]
  rcases pk_ix x (n := n) (by omega) with q | q | ⟨j, hj, rfl⟩
  · exact out (Or.inl q)
  · exact out (Or.inr q)
  · have h6 := iv_6 hv j hj
    refine ⟨nI (K j), ?_, ?_⟩
    · unfold fn_V_kind
      rw [hc.1, pc_hasIn hn hj, Option.bind_some, if_neg (by decide), pc_kindIn hn hj hc.2.2.2.1, Option.bind_some]
    · have r3 := hm.2.2.1 j hj
      have r4 := hm.2.2.2.1 j hj
      rw [Nat.mul_zero, Nat.zero_add] at r3 r4
      unfold fn_M_kind
      rw [pm_nodeIn hn hm.1 hj, Option.bind_some, if_neg (by decide), jv_gp (pu_g (by omega) (by decide)), nI_clamp (by omega), r3]
      by_cases e4 : K j < 4
      · rw [if_pos e4, if_neg (show ¬ (4 : Int32) ≤ nI (K j) from nI_ge (b := 4) e4 (by decide)), jv_gp (pu_g (by omega) (by decide))]
      · rw [if_neg e4, if_pos (show (4 : Int32) ≤ nI 4 by decide), jv_gp (pu_g (by omega) (by decide)), r4]
        by_cases e6 : K j = 6
        · rw [if_pos (pu_b0.mpr (by simp [e6])), e6]
          rfl
        · rw [if_neg (fun q => by have := pu_b0.mp q; simp at this; omega)]
          have e0 : (0 : Int32) = nI 0 := rfl
          by_cases e5 : K j = 5
          · rw [e0, pm_good (g := 0) (b := false) (by omega) hn hj (iv_6 hv) (iv_5 hv) hm.1 hm.2.1 hm.2.2.1 ⟨fun q => (by cases q), fun q => by
              obtain ⟨k, k1, k2, k3, k4⟩ := hv.2.2.2.2.2.2.2.1 j hj e5
              exact absurd k4 (q k k1 k2 k3)⟩, Option.bind_some, if_pos (by decide), e5]
            rfl
          · have e44 : K j = 4 := by omega
            rw [e0, pm_good (g := 0) (b := true) (by omega) hn hj (iv_6 hv) (iv_5 hv) hm.1 hm.2.1 hm.2.2.1 ⟨fun _ k k1 k2 k3 => hv.2.2.2.2.2.2.2.2.1 j k hj e44 k1 k2 k3, fun _ => rfl⟩, Option.bind_some, if_neg (by decide), e44]
            rfl
theorem st_depth {bn : Int64} {zp : Int32} {ch : Nat → Int32} {ct lo oc : Int32} {kd dp su : Nat → Int32} {nm : Nat → Int64} {bg ln : Int32} {na cu pa re cl si lt pg : Nat → Int32} (h : st_ bn zp ch ct lo oc kd dp su nm bg ln na cu pa re cl si lt pg) (x : Int32) :
    ∃ o, fn_V_depth ct dp x = some o ∧ fn_M_depth cu pa x = some o := by
  obtain ⟨n, K, D, P, N, L, O, B, T, hv, hc, hm, hb, hp⟩ := h
  have hn := iv_n hv
  have out : (x < 0 ∨ nI n ≤ x) → ∃ o, fn_V_depth ct dp x = some o ∧ fn_M_depth cu pa x = some o := by
    intro q
    refine ⟨-1, ?_, ?_⟩
    · unfold fn_V_depth
      rw [hc.1, pc_hasNo q, Option.bind_some, if_pos rfl]
    · unfold fn_M_depth
      rw [pm_nodeNo hm.1 q, Option.bind_some, if_pos rfl]
  rcases pk_ix x (n := n) (by omega) with q | q | ⟨j, hj, rfl⟩
  · exact out (Or.inl q)
  · exact out (Or.inr q)
  · refine ⟨nI (D j), ?_, ?_⟩
    · unfold fn_V_depth
      rw [hc.1, pc_hasIn hn hj, Option.bind_some, if_neg (by decide), pc_depthIn hn hj hc.2.2.2.2.1, Option.bind_some]
    · unfold fn_M_depth
      rw [pm_nodeIn hn hm.1 hj, Option.bind_some, if_neg (by decide), show (0 : Int32) = nI 0 from rfl, pm_depth (g := 0) (by omega) hn (iv_5 hv) (iv_D hv) hm.2.1 hj, Option.bind_some]
theorem st_name {bn : Int64} {zp : Int32} {ch : Nat → Int32} {ct lo oc : Int32} {kd dp su : Nat → Int32} {nm : Nat → Int64} {bg ln : Int32} {na cu pa re cl si lt pg : Nat → Int32} (h : st_ bn zp ch ct lo oc kd dp su nm bg ln na cu pa re cl si lt pg) (x y : Int32) :
    ∃ o, fn_V_name ct nm x y = some o ∧ fn_M_name cu si lt x y = some o := by
  obtain ⟨n, K, D, P, N, L, O, B, T, hv, hc, hm, hb, hp⟩ := h
  have hn := iv_n hv
  have out : (x < 0 ∨ nI n ≤ x) → ∃ o, fn_V_name ct nm x y = some o ∧ fn_M_name cu si lt x y = some o := by
    intro q
    refine ⟨-1, ?_, ?_⟩
    · unfold fn_V_name fn_R_nameOf
      rw [hc.1, pc_hasNo q, Option.bind_some, if_pos rfl, Option.bind_some]
      by_cases e : y < 0
      · rw [if_pos e]
      · rw [if_neg e, show (0 : Int64) = lN (pu_k []) from rfl, pn_sizeOf ⟨by decide, fun c hc => by cases hc⟩, Option.bind_some, if_pos (show nI ([] : List Nat).length ≤ y from Int32.not_lt.mp e)]
    · unfold fn_M_name
      rw [pm_nodeNo hm.1 q, Option.bind_some, if_pos rfl]
  rcases pk_ix x (n := n) (by omega) with q | q | ⟨j, hj, rfl⟩
  · exact out (Or.inl q)
  · exact out (Or.inr q)
  · have hN := iv_N hv j hj
    have h6 := hN.1
    have r5 := hm.2.2.2.2.1 j hj
    have r6 := hm.2.2.2.2.2 j hj
    rw [Nat.mul_zero, Nat.zero_add] at r5 r6
    unfold fn_V_name fn_M_name
    rw [hc.1, pc_nameIn hn hj hc.2.2.2.2.2.2, Option.bind_some, pm_nodeIn hn hm.1 hj, Option.bind_some, if_neg (show ¬ (1 : Int32) = 0 by decide)]
    rcases pk_ix y (n := (N j).length) (by omega) with q | q | ⟨i, hi, rfl⟩
    · rw [if_pos q, if_pos q]
      exact ⟨-1, rfl, rfl⟩
    · by_cases e : y < 0
      · rw [if_pos e, if_pos e]
        exact ⟨-1, rfl, rfl⟩
      · rw [if_neg e, if_neg e, pn_sizeOf hN, Option.bind_some, if_pos q, jv_gp (pu_g (by omega) (by decide)), nI_clamp (by omega), r5, if_pos q]
        exact ⟨-1, rfl, rfl⟩
    · rw [if_neg (nI_pos (by omega)), if_neg (nI_pos (by omega)), pn_sizeOf hN, Option.bind_some, if_neg (nI_ge hi (by omega)), pn_codeAt hN (by omega), Option.bind_some, jv_gp (pu_g (by omega) (by decide)), nI_clamp (by omega), r5, if_neg (nI_ge hi (by omega)), pm_ix6, jv_gp (pu_g (by omega) (by decide)), nI_clamp (by omega), r6 i hi]
      exact ⟨_, rfl, rfl⟩
