set_option maxHeartbeats 40000000 in
set_option maxRecDepth 100000 in
theorem c_M_depth (l : Launch) (dC : Nat → ClassId) (dI : Nat → Nat → Nat) (cI cL cC cZ : ClassId) (h0 h1 h2 h3 h4 h5 h6 h7 h8 h9 : Nat) (sz : Nat) (bg : Int32) (ln : Int32) (mt : Int32) (en : Int32) (sx : Int32) (pl : Int32) (ov : Int32) (tk : Int32) (na : Nat → Int32) (cu : Nat → Int32) (pa : Nat → Int32) (re : Nat → Int32) (cl : Nat → Int32) (si : Nat → Int32) (lt : Nat → Int32) (pg : Nat → Int32) (rd : Nat → Int32) (x1 : Int32) (out : Int32) (hF : fn_M_depth cu pa x1 = some out) : Met l yy_M_depth ws_M_depth { frames := 1, cells := 0, slots := 0, locals := 24 } (mP_ (dC, dI) (tk_ cI cL cC cZ) [(h0, .inr (6, [.int bg, .ref h1, .ref h2, .ref h3, .ref h4, .ref h5, .ref h6, .ref h7, .int ln, .ref h8, .int mt, .int en, .int sx, .int pl, .int ov, .int tk, .ref h9])), (h1, .inl (cC, 6, .inl na)), (h2, .inl (cI, 2, .inl cu)), (h3, .inl (cI, 48, .inl pa)), (h4, .inl (cI, 48, .inl re)), (h5, .inl (cZ, 48, .inl cl)), (h6, .inl (cI, 48, .inl si)), (h7, .inl (cC, 288, .inl lt)), (h8, .inl (cC, 3000, .inl pg)), (h9, .inl (cC, 6, .inl rd))] sz [.ref h0, .int x1]) (vp_Si (fun r => r = out)) 0 0 (fun _ => False) := by
  refine Met.ofW (cc := cc_M_depth) (maxL := 2) (ret := (some .int)) (by decide) rfl ?_
  intro p e s m args below meth c s₁ B hml hv
  obtain ⟨hargs, hsz, hP, hK, hD0⟩ := hv
  have hx := B.exec
  have hb := B.bytes
  have hr := B.returns
  have hts := atoms_spec (ws := ws_M_depth) B.pre
  have ht : ∀ w ∈ TB_, w.before args s = true := fun w h => hts w (List.mem_cons_of_mem _ h)
  have hown : s.vm.findClass cn_M = some m.cls := findClass_of_methodNamed B.named
  have hlocks := B.notSynchronized
  subst hsz
  have hD := hD0.self (sz := s.heap.size)
  generalize hAe : va_A [(h0, .inr (6, [.int bg, .ref h1, .ref h2, .ref h3, .ref h4, .ref h5, .ref h6, .ref h7, .int ln, .ref h8, .int mt, .int en, .int sx, .int pl, .int ov, .int tk, .ref h9])), (h1, .inl (cC, 6, .inl na)), (h2, .inl (cI, 2, .inl cu)), (h3, .inl (cI, 48, .inl pa)), (h4, .inl (cI, 48, .inl re)), (h5, .inl (cZ, 48, .inl cl)), (h6, .inl (cI, 48, .inl si)), (h7, .inl (cC, 288, .inl lt)), (h8, .inl (cC, 3000, .inl pg)), (h9, .inl (cC, 6, .inl rd))] s.heap.size = A at hD
  have hA : ∀ q : Nat, s.heap.size ≤ q → A q := fun q h => by rw [← hAe]; exact Or.inr h
  have hS : va_S A s.heap s.heap [] := va_S.rf
  have hP : va_P (dC, dI) vwCl [(h0, .inr (6, [.int bg, .ref h1, .ref h2, .ref h3, .ref h4, .ref h5, .ref h6, .ref h7, .int ln, .ref h8, .int mt, .int en, .int sx, .int pl, .int ov, .int tk, .ref h9])), (h1, .inl (cC, 6, .inl na)), (h2, .inl (cI, 2, .inl cu)), (h3, .inl (cI, 48, .inl pa)), (h4, .inl (cI, 48, .inl re)), (h5, .inl (cZ, 48, .inl cl)), (h6, .inl (cI, 48, .inl si)), (h7, .inl (cC, 288, .inl lt)), (h8, .inl (cC, 3000, .inl pg)), (h9, .inl (cC, 6, .inl rd))] s.heap := hP
  have hl := lv_entry [.ref h0, .int x1] (n := 2) (Nat.le_of_ble_eq_true rfl)
  have he : entryFrame m args 2 = _ := (congrArg (fun a => entryFrame m a 2) hargs).trans (lg_entry_eq m [.ref h0, .int x1] 2)
  rw [he]
  generalize (lg_sl [.ref h0, .int x1] ++ List.replicate (2 - (lg_sl [.ref h0, .int x1]).length) Slot.unset).toArray = ls at hl ⊢
  have hl : lv_has ls 2 [(0, .ref h0), (1, .int x1)] := hl
  generalize hQ : MQ below _ args s _ _ _ = Q
  unfold fn_M_depth at hF
  refine lv_aload_n hx hb dd_M_depth_0 rfl (lv_at hl 0 rfl) ?_
  refine lv_iload_n hx hb dd_M_depth_1 rfl (lv_at hl 1 rfl) ?_
  obtain ⟨o_2, ho_2, hF⟩ := jv_bi hF
  refine jv_ci (va_runV (C := cn_M) (As := [.int x1]) (rest := []) ⟨hx, hb, hml, hown, ht⟩ (c_M_node l dC dI cI cL cC cZ h0 h1 h2 h3 h4 h5 h6 h7 h8 h9 s.heap.size bg ln mt en sx pl ov tk na cu pa re cl si lt pg rd x1 _ ho_2) (cwV 1 ht (gi_V tw_3_138 tw_3_140 tw_p_18 tw_1_4 tw_3_141) rfl rfl rfl (by decide +kernel) ⟨Nat.le_of_ble_eq_true rfl, Nat.le_of_ble_eq_true rfl⟩) (jv_pv hK hP hD [0, 1, 2, 3, 4, 5, 6, 7, 8, 9] rfl (by decide) rfl (va_recv hK hP (ci := 6) (q0 := 0) rfl rfl)) rfl rfl hl.1 rfl (lv_room (Nat.le_of_ble_eq_true rfl)) dd_M_depth_2 ⟨Nat.le_of_ble_eq_true rfl, Nat.le_of_ble_eq_true rfl⟩) ?_
  refine lv_if_eq (tgt := 17) hx hb dd_M_depth_5 (by decide) (fun c_2 => ?_) (fun c_2 => ?_)
  · have hF := jv_t c_2 hF
    refine lv_iconst (v := (-1)) hx hb dd_M_depth_17 (by decide) ?_
    subst hQ
    exact W.iret (v := (-1)) hx hb hr (fun t ht hW => ⟨(-1), rfl, (Option.some.inj hF), ht⟩) (fun _ h => by cases h) dd_M_depth_18
  · have hF := jv_f c_2 hF
    refine lv_aload_n hx hb dd_M_depth_8 rfl (lv_at hl 0 rfl) ?_
    refine lv_iconst (v := 0) hx hb dd_M_depth_9 (by decide) ?_
    refine lv_iload_n hx hb dd_M_depth_10 rfl (lv_at hl 1 rfl) ?_
    obtain ⟨o_11, ho_11, hF⟩ := jv_bi hF
    refine jv_ci (va_runV (C := cn_M) (As := [.int 0, .int x1]) (rest := []) ⟨hx, hb, hml, hown, ht⟩ (c_M_depthOf l dC dI cI cL cC cZ h0 h1 h2 h3 h4 h5 h6 h7 h8 h9 s.heap.size bg ln mt en sx pl ov tk na cu pa re cl si lt pg rd 0 x1 _ ho_11) (cwV 2 ht (gi_V tw_3_106 tw_3_108 tw_p_15 tw_1_4 tw_3_109) rfl rfl rfl (by decide +kernel) ⟨Nat.le_of_ble_eq_true rfl, Nat.le_of_ble_eq_true rfl⟩) (jv_pv hK hP hD [0, 1, 2, 3, 4, 5, 6, 7, 8, 9] rfl (by decide) rfl (va_recv hK hP (ci := 6) (q0 := 0) rfl rfl)) rfl rfl hl.1 rfl (lv_room (Nat.le_of_ble_eq_true rfl)) dd_M_depth_11 ⟨Nat.le_of_ble_eq_true rfl, Nat.le_of_ble_eq_true rfl⟩) ?_
    refine lv_goto (tgt := 18) hx hb dd_M_depth_14 (by decide) ?_
    subst hQ
    exact W.iret (v := o_11) hx hb hr (fun t ht hW => ⟨o_11, rfl, (Option.some.inj hF), ht⟩) (fun _ h => by cases h) dd_M_depth_18
set_option maxHeartbeats 40000000 in
set_option maxRecDepth 100000 in
theorem c_M_name (l : Launch) (dC : Nat → ClassId) (dI : Nat → Nat → Nat) (cI cL cC cZ : ClassId) (h0 h1 h2 h3 h4 h5 h6 h7 h8 h9 : Nat) (sz : Nat) (bg : Int32) (ln : Int32) (mt : Int32) (en : Int32) (sx : Int32) (pl : Int32) (ov : Int32) (tk : Int32) (na : Nat → Int32) (cu : Nat → Int32) (pa : Nat → Int32) (re : Nat → Int32) (cl : Nat → Int32) (si : Nat → Int32) (lt : Nat → Int32) (pg : Nat → Int32) (rd : Nat → Int32) (x1 : Int32) (x2 : Int32) (out : Int32) (hF : fn_M_name cu si lt x1 x2 = some out) : Met l yy_M_name ws_M_name { frames := 1, cells := 0, slots := 0, locals := 21 } (mP_ (dC, dI) (tk_ cI cL cC cZ) [(h0, .inr (6, [.int bg, .ref h1, .ref h2, .ref h3, .ref h4, .ref h5, .ref h6, .ref h7, .int ln, .ref h8, .int mt, .int en, .int sx, .int pl, .int ov, .int tk, .ref h9])), (h1, .inl (cC, 6, .inl na)), (h2, .inl (cI, 2, .inl cu)), (h3, .inl (cI, 48, .inl pa)), (h4, .inl (cI, 48, .inl re)), (h5, .inl (cZ, 48, .inl cl)), (h6, .inl (cI, 48, .inl si)), (h7, .inl (cC, 288, .inl lt)), (h8, .inl (cC, 3000, .inl pg)), (h9, .inl (cC, 6, .inl rd))] sz [.ref h0, .int x1, .int x2]) (vp_Si (fun r => r = out)) 0 0 (fun _ => False) := by
  refine Met.ofW (cc := cc_M_name) (maxL := 3) (ret := (some .int)) (by decide) rfl ?_
  intro p e s m args below meth c s₁ B hml hv
  obtain ⟨hargs, hsz, hP, hK, hD0⟩ := hv
  have hx := B.exec
  have hb := B.bytes
  have hr := B.returns
  have hts := atoms_spec (ws := ws_M_name) B.pre
  have ht : ∀ w ∈ TB_, w.before args s = true := fun w h => hts w (List.mem_cons_of_mem _ h)
  have hown : s.vm.findClass cn_M = some m.cls := findClass_of_methodNamed B.named
  have hlocks := B.notSynchronized
  subst hsz
  have hD := hD0.self (sz := s.heap.size)
  generalize hAe : va_A [(h0, .inr (6, [.int bg, .ref h1, .ref h2, .ref h3, .ref h4, .ref h5, .ref h6, .ref h7, .int ln, .ref h8, .int mt, .int en, .int sx, .int pl, .int ov, .int tk, .ref h9])), (h1, .inl (cC, 6, .inl na)), (h2, .inl (cI, 2, .inl cu)), (h3, .inl (cI, 48, .inl pa)), (h4, .inl (cI, 48, .inl re)), (h5, .inl (cZ, 48, .inl cl)), (h6, .inl (cI, 48, .inl si)), (h7, .inl (cC, 288, .inl lt)), (h8, .inl (cC, 3000, .inl pg)), (h9, .inl (cC, 6, .inl rd))] s.heap.size = A at hD
  have hA : ∀ q : Nat, s.heap.size ≤ q → A q := fun q h => by rw [← hAe]; exact Or.inr h
  have hS : va_S A s.heap s.heap [] := va_S.rf
  have hP : va_P (dC, dI) vwCl [(h0, .inr (6, [.int bg, .ref h1, .ref h2, .ref h3, .ref h4, .ref h5, .ref h6, .ref h7, .int ln, .ref h8, .int mt, .int en, .int sx, .int pl, .int ov, .int tk, .ref h9])), (h1, .inl (cC, 6, .inl na)), (h2, .inl (cI, 2, .inl cu)), (h3, .inl (cI, 48, .inl pa)), (h4, .inl (cI, 48, .inl re)), (h5, .inl (cZ, 48, .inl cl)), (h6, .inl (cI, 48, .inl si)), (h7, .inl (cC, 288, .inl lt)), (h8, .inl (cC, 3000, .inl pg)), (h9, .inl (cC, 6, .inl rd))] s.heap := hP
  have hl := lv_entry [.ref h0, .int x1, .int x2] (n := 3) (Nat.le_of_ble_eq_true rfl)
  have he : entryFrame m args 3 = _ := (congrArg (fun a => entryFrame m a 3) hargs).trans (lg_entry_eq m [.ref h0, .int x1, .int x2] 3)
  rw [he]
  generalize (lg_sl [.ref h0, .int x1, .int x2] ++ List.replicate (3 - (lg_sl [.ref h0, .int x1, .int x2]).length) Slot.unset).toArray = ls at hl ⊢
  have hl : lv_has ls 3 [(0, .ref h0), (1, .int x1), (2, .int x2)] := hl
  generalize hQ : MQ below _ args s _ _ _ = Q
  unfold fn_M_name at hF
  refine lv_aload_n hx hb dd_M_name_0 rfl (lv_at hl 0 rfl) ?_
  refine lv_iload_n hx hb dd_M_name_1 rfl (lv_at hl 1 rfl) ?_
  obtain ⟨o_2, ho_2, hF⟩ := jv_bi hF
  refine jv_ci (va_runV (C := cn_M) (As := [.int x1]) (rest := []) ⟨hx, hb, hml, hown, ht⟩ (c_M_node l dC dI cI cL cC cZ h0 h1 h2 h3 h4 h5 h6 h7 h8 h9 s.heap.size bg ln mt en sx pl ov tk na cu pa re cl si lt pg rd x1 _ ho_2) (cwV 1 ht (gi_V tw_3_138 tw_3_140 tw_p_18 tw_1_4 tw_3_141) rfl rfl rfl (by decide +kernel) ⟨Nat.le_of_ble_eq_true rfl, Nat.le_of_ble_eq_true rfl⟩) (jv_pv hK hP hD [0, 1, 2, 3, 4, 5, 6, 7, 8, 9] rfl (by decide) rfl (va_recv hK hP (ci := 6) (q0 := 0) rfl rfl)) rfl rfl hl.1 rfl (lv_room (Nat.le_of_ble_eq_true rfl)) dd_M_name_2 ⟨Nat.le_of_ble_eq_true rfl, Nat.le_of_ble_eq_true rfl⟩) ?_
  refine lv_if_eq (tgt := 36) hx hb dd_M_name_5 (by decide) (fun c_6 => ?_) (fun c_6 => ?_)
  · have hF := jv_t c_6 hF
    refine lv_iconst (v := (-1)) hx hb dd_M_name_36 (by decide) ?_
    subst hQ
    exact W.iret (v := (-1)) hx hb hr (fun t ht hW => ⟨(-1), rfl, (Option.some.inj hF), ht⟩) (fun _ h => by cases h) dd_M_name_37
  · have hF := jv_f c_6 hF
    refine lv_iload_n hx hb dd_M_name_8 rfl (lv_at hl 2 rfl) ?_
    refine lv_if_lt (tgt := 36) hx hb dd_M_name_9 (by decide) (fun c_7 => ?_) (fun c_7 => ?_)
    · have hF := jv_t c_7 hF
      refine lv_iconst (v := (-1)) hx hb dd_M_name_36 (by decide) ?_
      subst hQ
      exact W.iret (v := (-1)) hx hb hr (fun t ht hW => ⟨(-1), rfl, (Option.some.inj hF), ht⟩) (fun _ h => by cases h) dd_M_name_37
    · have hF := jv_f c_7 hF
      refine lv_iload_n hx hb dd_M_name_12 rfl (lv_at hl 2 rfl) ?_
      refine lv_aload_n hx hb dd_M_name_13 rfl (lv_at hl 0 rfl) ?_
      refine va_get (D := (dC, dI)) (ci := 6) (v := .ref h6) (C := cn_M) (T := tt_M) (N := 17) hx hb ht in_M hown hK hP 0 rfl rfl 6 (by decide) (ht _ tw_3_47) (fun _ h9 => h9) rfl dd_M_name_14 ?_
      refine lv_iload_n hx hb dd_M_name_17 rfl (lv_at hl 1 rfl) ?_
      obtain ⟨g_8, hF⟩ := jv_gi hF
      refine va_iald hx hb hK hP 6 0 rfl rfl (jv_in g_8) dd_M_name_18 ?_
      refine lv_icmp_ge (tgt := 36) hx hb dd_M_name_19 (by decide) (fun c_9 => ?_) (fun c_9 => ?_)
      · have hF := jv_t c_9 hF
        refine lv_iconst (v := (-1)) hx hb dd_M_name_36 (by decide) ?_
        subst hQ
        exact W.iret (v := (-1)) hx hb hr (fun t ht hW => ⟨(-1), rfl, (Option.some.inj hF), ht⟩) (fun _ h => by cases h) dd_M_name_37
      · have hF := jv_f c_9 hF
        refine lv_aload_n hx hb dd_M_name_22 rfl (lv_at hl 0 rfl) ?_
        refine va_get (D := (dC, dI)) (ci := 6) (v := .ref h7) (C := cn_M) (T := tt_M) (N := 17) hx hb ht in_M hown hK hP 0 rfl rfl 7 (by decide) (ht _ tw_3_48) (fun _ h9 => h9) rfl dd_M_name_23 ?_
        refine lv_bipush (v := 6) hx hb dd_M_name_26 (by decide) ?_
        refine lv_iload_n hx hb dd_M_name_28 rfl (lv_at hl 1 rfl) ?_
        refine lv_imul hx hb dd_M_name_29 ?_
        refine lv_iload_n hx hb dd_M_name_30 rfl (lv_at hl 2 rfl) ?_
        refine lv_iadd hx hb dd_M_name_31 ?_
        obtain ⟨g_10, hF⟩ := jv_gi hF
        refine va_cald hx hb hK hP 7 2 rfl rfl (jv_in g_10) dd_M_name_32 ?_
        refine lv_goto (tgt := 37) hx hb dd_M_name_33 (by decide) ?_
        subst hQ
        exact W.iret (v := lt ((6 * x1) + x2).toNatClampNeg) hx hb hr (fun t ht hW => ⟨lt ((6 * x1) + x2).toNatClampNeg, rfl, (Option.some.inj hF), ht⟩) (fun _ h => by cases h) dd_M_name_37
set_option maxHeartbeats 40000000 in
set_option maxRecDepth 100000 in
theorem c_M_placeOf (l : Launch) (dC : Nat → ClassId) (dI : Nat → Nat → Nat) (cI cL cC cZ : ClassId) (h0 h1 h2 h3 h4 h5 h6 h7 h8 h9 : Nat) (sz : Nat) (bg : Int32) (ln : Int32) (mt : Int32) (en : Int32) (sx : Int32) (pl : Int32) (ov : Int32) (tk : Int32) (na : Nat → Int32) (cu : Nat → Int32) (pa : Nat → Int32) (re : Nat → Int32) (cl : Nat → Int32) (si : Nat → Int32) (lt : Nat → Int32) (pg : Nat → Int32) (rd : Nat → Int32) (x1 : Int32) (x2 : Int32) (out : Int32) (hF : fn_M_placeOf pa x1 x2 = some out) : Met l yy_M_placeOf ws_M_placeOf { frames := 0, cells := 0, slots := 0, locals := 0 } (mP_ (dC, dI) (tk_ cI cL cC cZ) [(h0, .inr (6, [.int bg, .ref h1, .ref h2, .ref h3, .ref h4, .ref h5, .ref h6, .ref h7, .int ln, .ref h8, .int mt, .int en, .int sx, .int pl, .int ov, .int tk, .ref h9])), (h1, .inl (cC, 6, .inl na)), (h2, .inl (cI, 2, .inl cu)), (h3, .inl (cI, 48, .inl pa)), (h4, .inl (cI, 48, .inl re)), (h5, .inl (cZ, 48, .inl cl)), (h6, .inl (cI, 48, .inl si)), (h7, .inl (cC, 288, .inl lt)), (h8, .inl (cC, 3000, .inl pg)), (h9, .inl (cC, 6, .inl rd))] sz [.ref h0, .int x1, .int x2]) (vp_Si (fun r => r = out)) 0 0 (fun _ => False) := by
  refine Met.ofW (cc := cc_M_placeOf) (maxL := 5) (ret := (some .int)) (by decide) rfl ?_
  intro p e s m args below meth c s₁ B hml hv
  obtain ⟨hargs, hsz, hP, hK, hD0⟩ := hv
  have hx := B.exec
  have hb := B.bytes
  have hr := B.returns
  have hts := atoms_spec (ws := ws_M_placeOf) B.pre
  have ht : ∀ w ∈ TB_, w.before args s = true := fun w h => hts w (List.mem_cons_of_mem _ h)
  have hown : s.vm.findClass cn_M = some m.cls := findClass_of_methodNamed B.named
  have hlocks := B.notSynchronized
  subst hsz
  have hD := hD0.self (sz := s.heap.size)
  generalize hAe : va_A [(h0, .inr (6, [.int bg, .ref h1, .ref h2, .ref h3, .ref h4, .ref h5, .ref h6, .ref h7, .int ln, .ref h8, .int mt, .int en, .int sx, .int pl, .int ov, .int tk, .ref h9])), (h1, .inl (cC, 6, .inl na)), (h2, .inl (cI, 2, .inl cu)), (h3, .inl (cI, 48, .inl pa)), (h4, .inl (cI, 48, .inl re)), (h5, .inl (cZ, 48, .inl cl)), (h6, .inl (cI, 48, .inl si)), (h7, .inl (cC, 288, .inl lt)), (h8, .inl (cC, 3000, .inl pg)), (h9, .inl (cC, 6, .inl rd))] s.heap.size = A at hD
  have hA : ∀ q : Nat, s.heap.size ≤ q → A q := fun q h => by rw [← hAe]; exact Or.inr h
  have hS : va_S A s.heap s.heap [] := va_S.rf
  have hP : va_P (dC, dI) vwCl [(h0, .inr (6, [.int bg, .ref h1, .ref h2, .ref h3, .ref h4, .ref h5, .ref h6, .ref h7, .int ln, .ref h8, .int mt, .int en, .int sx, .int pl, .int ov, .int tk, .ref h9])), (h1, .inl (cC, 6, .inl na)), (h2, .inl (cI, 2, .inl cu)), (h3, .inl (cI, 48, .inl pa)), (h4, .inl (cI, 48, .inl re)), (h5, .inl (cZ, 48, .inl cl)), (h6, .inl (cI, 48, .inl si)), (h7, .inl (cC, 288, .inl lt)), (h8, .inl (cC, 3000, .inl pg)), (h9, .inl (cC, 6, .inl rd))] s.heap := hP
  have hl := lv_entry [.ref h0, .int x1, .int x2] (n := 5) (Nat.le_of_ble_eq_true rfl)
  have he : entryFrame m args 5 = _ := (congrArg (fun a => entryFrame m a 5) hargs).trans (lg_entry_eq m [.ref h0, .int x1, .int x2] 5)
  rw [he]
  generalize (lg_sl [.ref h0, .int x1, .int x2] ++ List.replicate (5 - (lg_sl [.ref h0, .int x1, .int x2]).length) Slot.unset).toArray = ls at hl ⊢
  have hl : lv_has ls 5 [(0, .ref h0), (1, .int x1), (2, .int x2)] := hl
  generalize hQ : MQ below _ args s _ _ _ = Q
  have lp5 : ∀ (n5 : Nat), ∀ (x1 : Int32) (x2 : Int32) (x3 : Int32) (x4 : Int32), fl_M_placeOf_5 pa  n5 (x1, x2, x3, x4) = some out → ∀ ls : Array Slot, lv_has ls 5 [(0, .ref h0), (1, .int x1), (2, .int x2), (3, .int x3), (4, .int x4)] → W p l e (headSpec ws_M_placeOf { frames := 0, cells := 0, slots := 0, locals := 0 }).room s m args below meth c s.heap [] 0 0 Q (F0 m 5 ls []) := by
    intro n5
    induction n5 with
    | zero =>
      intro x1 x2 x3 x4 hF
      exact (jv_no hF).elim
    | succ n5 ih5 =>
      intro x1 x2 x3 x4 hF ls hl
      have hF : fb_M_placeOf_5 pa  (fl_M_placeOf_5 pa  n5) x1 x2 x3 x4 = some out := hF
      unfold fb_M_placeOf_5 at hF
      refine lv_iload hx hb dd_M_placeOf_5 (lv_at hl 4 rfl) ?_
      refine lv_iload_n hx hb dd_M_placeOf_7 rfl (lv_at hl 2 rfl) ?_
      refine lv_icmp_gt (tgt := 51) hx hb dd_M_placeOf_8 (by decide) (fun c_5 => ?_) (fun c_5 => ?_)
      · have hF := jv_t c_5 hF
        refine lv_iload_n hx hb dd_M_placeOf_51 rfl (lv_at hl 3 rfl) ?_
        subst hQ
        exact W.iret (v := x3) hx hb hr (fun t ht hW => ⟨x3, rfl, (Option.some.inj hF), ht⟩) (fun _ h => by cases h) dd_M_placeOf_52
      · have hF := jv_f c_5 hF
        refine lv_iload_n hx hb dd_M_placeOf_11 rfl (lv_at hl 3 rfl) ?_
        refine lv_aload_n hx hb dd_M_placeOf_12 rfl (lv_at hl 0 rfl) ?_
        refine va_get (D := (dC, dI)) (ci := 6) (v := .ref h3) (C := cn_M) (T := tt_M) (N := 17) hx hb ht in_M hown hK hP 0 rfl rfl 3 (by decide) (ht _ tw_3_44) (fun _ h9 => h9) rfl dd_M_placeOf_13 ?_
        refine lv_bipush (v := 24) hx hb dd_M_placeOf_16 (by decide) ?_
        refine lv_iload_n hx hb dd_M_placeOf_18 rfl (lv_at hl 1 rfl) ?_
        refine lv_imul hx hb dd_M_placeOf_19 ?_
        refine lv_iload hx hb dd_M_placeOf_20 (lv_at hl 4 rfl) ?_
        refine lv_iadd hx hb dd_M_placeOf_22 ?_
        obtain ⟨g_6, hF⟩ := jv_gi hF
        refine va_iald hx hb hK hP 3 0 rfl rfl (jv_in g_6) dd_M_placeOf_23 ?_
        refine lv_aload_n hx hb dd_M_placeOf_24 rfl (lv_at hl 0 rfl) ?_
        refine va_get (D := (dC, dI)) (ci := 6) (v := .ref h3) (C := cn_M) (T := tt_M) (N := 17) hx hb ht in_M hown hK hP 0 rfl rfl 3 (by decide) (ht _ tw_3_44) (fun _ h9 => h9) rfl dd_M_placeOf_25 ?_
        refine lv_bipush (v := 24) hx hb dd_M_placeOf_28 (by decide) ?_
        refine lv_iload_n hx hb dd_M_placeOf_30 rfl (lv_at hl 1 rfl) ?_
        refine lv_imul hx hb dd_M_placeOf_31 ?_
        refine lv_iload_n hx hb dd_M_placeOf_32 rfl (lv_at hl 2 rfl) ?_
        refine lv_iadd hx hb dd_M_placeOf_33 ?_
        obtain ⟨g_7, hF⟩ := jv_gi hF
        refine va_iald hx hb hK hP 3 0 rfl rfl (jv_in g_7) dd_M_placeOf_34 ?_
        refine lv_icmp_ne (tgt := 42) hx hb dd_M_placeOf_35 (by decide) (fun c_8 => ?_) (fun c_8 => ?_)
        · have hF := jv_f c_8 hF
          refine lv_iconst (v := 0) hx hb dd_M_placeOf_42 (by decide) ?_
          refine lv_iadd hx hb dd_M_placeOf_43 ?_
          refine lv_istore_n (lv' := [(3, .int (x3 + 0)), (0, .ref h0), (1, .int x1), (2, .int x2), (4, .int x4)]) hx hb dd_M_placeOf_44 rfl hl (by decide) rfl (fun ls hl => ?_)
          refine lv_iinc (v := x4 + 1) (lv' := [(4, .int (x4 + 1)), (3, .int (x3 + 0)), (0, .ref h0), (1, .int x1), (2, .int x2)]) hx hb dd_M_placeOf_45 hl (k := 4) rfl rfl (by decide) rfl (fun ls hl => ?_)
          refine lv_goto (tgt := 5) hx hb dd_M_placeOf_48 (by decide) ?_
          exact ih5 x1 x2 (x3 + 0) (x4 + 1) hF ls (lv_sub hl [2, 3, 4, 1, 0] rfl)
        · have hF := jv_t c_8 hF
          refine lv_iconst (v := 1) hx hb dd_M_placeOf_38 (by decide) ?_
          refine lv_goto (tgt := 43) hx hb dd_M_placeOf_39 (by decide) ?_
          refine lv_iadd hx hb dd_M_placeOf_43 ?_
          refine lv_istore_n (lv' := [(3, .int (x3 + 1)), (0, .ref h0), (1, .int x1), (2, .int x2), (4, .int x4)]) hx hb dd_M_placeOf_44 rfl hl (by decide) rfl (fun ls hl => ?_)
          refine lv_iinc (v := x4 + 1) (lv' := [(4, .int (x4 + 1)), (3, .int (x3 + 1)), (0, .ref h0), (1, .int x1), (2, .int x2)]) hx hb dd_M_placeOf_45 hl (k := 4) rfl rfl (by decide) rfl (fun ls hl => ?_)
          refine lv_goto (tgt := 5) hx hb dd_M_placeOf_48 (by decide) ?_
          exact ih5 x1 x2 (x3 + 1) (x4 + 1) hF ls (lv_sub hl [2, 3, 4, 1, 0] rfl)
  unfold fn_M_placeOf at hF
  refine lv_iconst (v := 0) hx hb dd_M_placeOf_0 (by decide) ?_
  refine lv_istore_n (lv' := [(3, .int 0), (0, .ref h0), (1, .int x1), (2, .int x2)]) hx hb dd_M_placeOf_1 rfl hl (by decide) rfl (fun ls hl => ?_)
  refine lv_iconst (v := 0) hx hb dd_M_placeOf_2 (by decide) ?_
  refine lv_istore (lv' := [(4, .int 0), (3, .int 0), (0, .ref h0), (1, .int x1), (2, .int x2)]) hx hb dd_M_placeOf_3 hl (by decide) rfl (fun ls hl => ?_)
  exact lp5 4000 x1 x2 0 0 hF ls (lv_sub hl [2, 3, 4, 1, 0] rfl)
set_option maxHeartbeats 40000000 in
set_option maxRecDepth 100000 in
theorem c_M_rowSize (l : Launch) (dC : Nat → ClassId) (dI : Nat → Nat → Nat) (cI cL cC cZ : ClassId) (h0 h1 h2 h3 h4 h5 h6 h7 h8 h9 : Nat) (sz : Nat) (bg : Int32) (ln : Int32) (mt : Int32) (en : Int32) (sx : Int32) (pl : Int32) (ov : Int32) (tk : Int32) (na : Nat → Int32) (cu : Nat → Int32) (pa : Nat → Int32) (re : Nat → Int32) (cl : Nat → Int32) (si : Nat → Int32) (lt : Nat → Int32) (pg : Nat → Int32) (rd : Nat → Int32) (x1 : Int32) (x2 : Int32) (out : Int32) (hF : fn_M_rowSize cu pa x1 x2 = some out) : Met l yy_M_rowSize ws_M_rowSize { frames := 0, cells := 0, slots := 0, locals := 0 } (mP_ (dC, dI) (tk_ cI cL cC cZ) [(h0, .inr (6, [.int bg, .ref h1, .ref h2, .ref h3, .ref h4, .ref h5, .ref h6, .ref h7, .int ln, .ref h8, .int mt, .int en, .int sx, .int pl, .int ov, .int tk, .ref h9])), (h1, .inl (cC, 6, .inl na)), (h2, .inl (cI, 2, .inl cu)), (h3, .inl (cI, 48, .inl pa)), (h4, .inl (cI, 48, .inl re)), (h5, .inl (cZ, 48, .inl cl)), (h6, .inl (cI, 48, .inl si)), (h7, .inl (cC, 288, .inl lt)), (h8, .inl (cC, 3000, .inl pg)), (h9, .inl (cC, 6, .inl rd))] sz [.ref h0, .int x1, .int x2]) (vp_Si (fun r => r = out)) 0 0 (fun _ => False) := by
  refine Met.ofW (cc := cc_M_rowSize) (maxL := 5) (ret := (some .int)) (by decide) rfl ?_
  intro p e s m args below meth c s₁ B hml hv
  obtain ⟨hargs, hsz, hP, hK, hD0⟩ := hv
  have hx := B.exec
  have hb := B.bytes
  have hr := B.returns
  have hts := atoms_spec (ws := ws_M_rowSize) B.pre
  have ht : ∀ w ∈ TB_, w.before args s = true := fun w h => hts w (List.mem_cons_of_mem _ h)
  have hown : s.vm.findClass cn_M = some m.cls := findClass_of_methodNamed B.named
  have hlocks := B.notSynchronized
  subst hsz
  have hD := hD0.self (sz := s.heap.size)
  generalize hAe : va_A [(h0, .inr (6, [.int bg, .ref h1, .ref h2, .ref h3, .ref h4, .ref h5, .ref h6, .ref h7, .int ln, .ref h8, .int mt, .int en, .int sx, .int pl, .int ov, .int tk, .ref h9])), (h1, .inl (cC, 6, .inl na)), (h2, .inl (cI, 2, .inl cu)), (h3, .inl (cI, 48, .inl pa)), (h4, .inl (cI, 48, .inl re)), (h5, .inl (cZ, 48, .inl cl)), (h6, .inl (cI, 48, .inl si)), (h7, .inl (cC, 288, .inl lt)), (h8, .inl (cC, 3000, .inl pg)), (h9, .inl (cC, 6, .inl rd))] s.heap.size = A at hD
  have hA : ∀ q : Nat, s.heap.size ≤ q → A q := fun q h => by rw [← hAe]; exact Or.inr h
  have hS : va_S A s.heap s.heap [] := va_S.rf
  have hP : va_P (dC, dI) vwCl [(h0, .inr (6, [.int bg, .ref h1, .ref h2, .ref h3, .ref h4, .ref h5, .ref h6, .ref h7, .int ln, .ref h8, .int mt, .int en, .int sx, .int pl, .int ov, .int tk, .ref h9])), (h1, .inl (cC, 6, .inl na)), (h2, .inl (cI, 2, .inl cu)), (h3, .inl (cI, 48, .inl pa)), (h4, .inl (cI, 48, .inl re)), (h5, .inl (cZ, 48, .inl cl)), (h6, .inl (cI, 48, .inl si)), (h7, .inl (cC, 288, .inl lt)), (h8, .inl (cC, 3000, .inl pg)), (h9, .inl (cC, 6, .inl rd))] s.heap := hP
  have hl := lv_entry [.ref h0, .int x1, .int x2] (n := 5) (Nat.le_of_ble_eq_true rfl)
  have he : entryFrame m args 5 = _ := (congrArg (fun a => entryFrame m a 5) hargs).trans (lg_entry_eq m [.ref h0, .int x1, .int x2] 5)
  rw [he]
  generalize (lg_sl [.ref h0, .int x1, .int x2] ++ List.replicate (5 - (lg_sl [.ref h0, .int x1, .int x2]).length) Slot.unset).toArray = ls at hl ⊢
  have hl : lv_has ls 5 [(0, .ref h0), (1, .int x1), (2, .int x2)] := hl
  generalize hQ : MQ below _ args s _ _ _ = Q
  have lp5 : ∀ (n5 : Nat), ∀ (x1 : Int32) (x2 : Int32) (x3 : Int32) (x4 : Int32), fl_M_rowSize_5 cu pa  n5 (x1, x2, x3, x4) = some out → ∀ ls : Array Slot, lv_has ls 5 [(0, .ref h0), (1, .int x1), (2, .int x2), (3, .int x3), (4, .int x4)] → W p l e (headSpec ws_M_rowSize { frames := 0, cells := 0, slots := 0, locals := 0 }).room s m args below meth c s.heap [] 0 0 Q (F0 m 5 ls []) := by
    intro n5
    induction n5 with
    | zero =>
      intro x1 x2 x3 x4 hF
      exact (jv_no hF).elim
    | succ n5 ih5 =>
      intro x1 x2 x3 x4 hF ls hl
      have hF : fb_M_rowSize_5 cu pa  (fl_M_rowSize_5 cu pa  n5) x1 x2 x3 x4 = some out := hF
      unfold fb_M_rowSize_5 at hF
      refine lv_iload hx hb dd_M_rowSize_5 (lv_at hl 4 rfl) ?_
      refine lv_aload_n hx hb dd_M_rowSize_7 rfl (lv_at hl 0 rfl) ?_
      refine va_get (D := (dC, dI)) (ci := 6) (v := .ref h2) (C := cn_M) (T := tt_M) (N := 17) hx hb ht in_M hown hK hP 0 rfl rfl 2 (by decide) (ht _ tw_3_43) (fun _ h9 => h9) rfl dd_M_rowSize_8 ?_
      refine lv_iload_n hx hb dd_M_rowSize_11 rfl (lv_at hl 1 rfl) ?_
      obtain ⟨g_5, hF⟩ := jv_gi hF
      refine va_iald hx hb hK hP 2 0 rfl rfl (jv_in g_5) dd_M_rowSize_12 ?_
      refine lv_icmp_ge (tgt := 46) hx hb dd_M_rowSize_13 (by decide) (fun c_6 => ?_) (fun c_6 => ?_)
      · have hF := jv_t c_6 hF
        refine lv_iload_n hx hb dd_M_rowSize_46 rfl (lv_at hl 3 rfl) ?_
        subst hQ
        exact W.iret (v := x3) hx hb hr (fun t ht hW => ⟨x3, rfl, (Option.some.inj hF), ht⟩) (fun _ h => by cases h) dd_M_rowSize_47
      · have hF := jv_f c_6 hF
        refine lv_iload_n hx hb dd_M_rowSize_16 rfl (lv_at hl 3 rfl) ?_
        refine lv_aload_n hx hb dd_M_rowSize_17 rfl (lv_at hl 0 rfl) ?_
        refine va_get (D := (dC, dI)) (ci := 6) (v := .ref h3) (C := cn_M) (T := tt_M) (N := 17) hx hb ht in_M hown hK hP 0 rfl rfl 3 (by decide) (ht _ tw_3_44) (fun _ h9 => h9) rfl dd_M_rowSize_18 ?_
        refine lv_bipush (v := 24) hx hb dd_M_rowSize_21 (by decide) ?_
        refine lv_iload_n hx hb dd_M_rowSize_23 rfl (lv_at hl 1 rfl) ?_
        refine lv_imul hx hb dd_M_rowSize_24 ?_
        refine lv_iload hx hb dd_M_rowSize_25 (lv_at hl 4 rfl) ?_
        refine lv_iadd hx hb dd_M_rowSize_27 ?_
        obtain ⟨g_7, hF⟩ := jv_gi hF
        refine va_iald hx hb hK hP 3 0 rfl rfl (jv_in g_7) dd_M_rowSize_28 ?_
        refine lv_iload_n hx hb dd_M_rowSize_29 rfl (lv_at hl 2 rfl) ?_
        refine lv_icmp_ne (tgt := 37) hx hb dd_M_rowSize_30 (by decide) (fun c_8 => ?_) (fun c_8 => ?_)
        · have hF := jv_f c_8 hF
          refine lv_iconst (v := 0) hx hb dd_M_rowSize_37 (by decide) ?_
          refine lv_iadd hx hb dd_M_rowSize_38 ?_
          refine lv_istore_n (lv' := [(3, .int (x3 + 0)), (0, .ref h0), (1, .int x1), (2, .int x2), (4, .int x4)]) hx hb dd_M_rowSize_39 rfl hl (by decide) rfl (fun ls hl => ?_)
          refine lv_iinc (v := x4 + 1) (lv' := [(4, .int (x4 + 1)), (3, .int (x3 + 0)), (0, .ref h0), (1, .int x1), (2, .int x2)]) hx hb dd_M_rowSize_40 hl (k := 4) rfl rfl (by decide) rfl (fun ls hl => ?_)
          refine lv_goto (tgt := 5) hx hb dd_M_rowSize_43 (by decide) ?_
          exact ih5 x1 x2 (x3 + 0) (x4 + 1) hF ls (lv_sub hl [2, 3, 4, 1, 0] rfl)
        · have hF := jv_t c_8 hF
          refine lv_iconst (v := 1) hx hb dd_M_rowSize_33 (by decide) ?_
          refine lv_goto (tgt := 38) hx hb dd_M_rowSize_34 (by decide) ?_
          refine lv_iadd hx hb dd_M_rowSize_38 ?_
          refine lv_istore_n (lv' := [(3, .int (x3 + 1)), (0, .ref h0), (1, .int x1), (2, .int x2), (4, .int x4)]) hx hb dd_M_rowSize_39 rfl hl (by decide) rfl (fun ls hl => ?_)
          refine lv_iinc (v := x4 + 1) (lv' := [(4, .int (x4 + 1)), (3, .int (x3 + 1)), (0, .ref h0), (1, .int x1), (2, .int x2)]) hx hb dd_M_rowSize_40 hl (k := 4) rfl rfl (by decide) rfl (fun ls hl => ?_)
          refine lv_goto (tgt := 5) hx hb dd_M_rowSize_43 (by decide) ?_
          exact ih5 x1 x2 (x3 + 1) (x4 + 1) hF ls (lv_sub hl [2, 3, 4, 1, 0] rfl)
  unfold fn_M_rowSize at hF
  refine lv_iconst (v := 0) hx hb dd_M_rowSize_0 (by decide) ?_
  refine lv_istore_n (lv' := [(3, .int 0), (0, .ref h0), (1, .int x1), (2, .int x2)]) hx hb dd_M_rowSize_1 rfl hl (by decide) rfl (fun ls hl => ?_)
  refine lv_iconst (v := 0) hx hb dd_M_rowSize_2 (by decide) ?_
  refine lv_istore (lv' := [(4, .int 0), (3, .int 0), (0, .ref h0), (1, .int x1), (2, .int x2)]) hx hb dd_M_rowSize_3 hl (by decide) rfl (fun ls hl => ?_)
  exact lp5 4000 x1 x2 0 0 hF ls (lv_sub hl [2, 3, 4, 1, 0] rfl)
set_option maxHeartbeats 40000000 in
set_option maxRecDepth 100000 in
theorem c_M_add (l : Launch) (dC : Nat → ClassId) (dI : Nat → Nat → Nat) (cI cL cC cZ : ClassId) (h0 h1 h2 h3 h4 h5 h6 h7 h8 h9 : Nat) (sz : Nat) (bg : Int32) (ln : Int32) (mt : Int32) (en : Int32) (sx : Int32) (pl : Int32) (ov : Int32) (tk : Int32) (na : Nat → Int32) (cu : Nat → Int32) (pa : Nat → Int32) (re : Nat → Int32) (cl : Nat → Int32) (si : Nat → Int32) (lt : Nat → Int32) (pg : Nat → Int32) (rd : Nat → Int32) (x1 : Int32) (out : Int32 × (Nat → Int32)) (hF : fn_M_add ln pg x1 = some out) : Met l yy_M_add ws_M_add { frames := 0, cells := 0, slots := 0, locals := 0 } (mP_ (dC, dI) (tk_ cI cL cC cZ) [(h0, .inr (6, [.int bg, .ref h1, .ref h2, .ref h3, .ref h4, .ref h5, .ref h6, .ref h7, .int ln, .ref h8, .int mt, .int en, .int sx, .int pl, .int ov, .int tk, .ref h9])), (h1, .inl (cC, 6, .inl na)), (h2, .inl (cI, 2, .inl cu)), (h3, .inl (cI, 48, .inl pa)), (h4, .inl (cI, 48, .inl re)), (h5, .inl (cZ, 48, .inl cl)), (h6, .inl (cI, 48, .inl si)), (h7, .inl (cC, 288, .inl lt)), (h8, .inl (cC, 3000, .inl pg)), (h9, .inl (cC, 6, .inl rd))] sz [.ref h0, .int x1]) (va_Qv (fun _ : Unit => True) (mB_ (dC, dI) (tk_ cI cL cC cZ) [(h0, .inr (6, [.int bg, .ref h1, .ref h2, .ref h3, .ref h4, .ref h5, .ref h6, .ref h7, .int out.1, .ref h8, .int mt, .int en, .int sx, .int pl, .int ov, .int tk, .ref h9])), (h1, .inl (cC, 6, .inl na)), (h2, .inl (cI, 2, .inl cu)), (h3, .inl (cI, 48, .inl pa)), (h4, .inl (cI, 48, .inl re)), (h5, .inl (cZ, 48, .inl cl)), (h6, .inl (cI, 48, .inl si)), (h7, .inl (cC, 288, .inl lt)), (h8, .inl (cC, 3000, .inl out.2)), (h9, .inl (cC, 6, .inl rd))] (va_A [(h0, .inr (6, [.int bg, .ref h1, .ref h2, .ref h3, .ref h4, .ref h5, .ref h6, .ref h7, .int ln, .ref h8, .int mt, .int en, .int sx, .int pl, .int ov, .int tk, .ref h9])), (h1, .inl (cC, 6, .inl na)), (h2, .inl (cI, 2, .inl cu)), (h3, .inl (cI, 48, .inl pa)), (h4, .inl (cI, 48, .inl re)), (h5, .inl (cZ, 48, .inl cl)), (h6, .inl (cI, 48, .inl si)), (h7, .inl (cC, 288, .inl lt)), (h8, .inl (cC, 3000, .inl pg)), (h9, .inl (cC, 6, .inl rd))] sz)) (va_A [(h0, .inr (6, [.int bg, .ref h1, .ref h2, .ref h3, .ref h4, .ref h5, .ref h6, .ref h7, .int ln, .ref h8, .int mt, .int en, .int sx, .int pl, .int ov, .int tk, .ref h9])), (h1, .inl (cC, 6, .inl na)), (h2, .inl (cI, 2, .inl cu)), (h3, .inl (cI, 48, .inl pa)), (h4, .inl (cI, 48, .inl re)), (h5, .inl (cZ, 48, .inl cl)), (h6, .inl (cI, 48, .inl si)), (h7, .inl (cC, 288, .inl lt)), (h8, .inl (cC, 3000, .inl pg)), (h9, .inl (cC, 6, .inl rd))] sz)) 0 0 (va_A [(h0, .inr (6, [.int bg, .ref h1, .ref h2, .ref h3, .ref h4, .ref h5, .ref h6, .ref h7, .int ln, .ref h8, .int mt, .int en, .int sx, .int pl, .int ov, .int tk, .ref h9])), (h1, .inl (cC, 6, .inl na)), (h2, .inl (cI, 2, .inl cu)), (h3, .inl (cI, 48, .inl pa)), (h4, .inl (cI, 48, .inl re)), (h5, .inl (cZ, 48, .inl cl)), (h6, .inl (cI, 48, .inl si)), (h7, .inl (cC, 288, .inl lt)), (h8, .inl (cC, 3000, .inl pg)), (h9, .inl (cC, 6, .inl rd))] sz) := by
  refine Met.ofW (cc := cc_M_add) (maxL := 2) (ret := none) (by decide) rfl ?_
  intro p e s m args below meth c s₁ B hml hv
  obtain ⟨hargs, hsz, hP, hK, hD0⟩ := hv
  have hx := B.exec
  have hb := B.bytes
  have hr := B.returns
  have hts := atoms_spec (ws := ws_M_add) B.pre
  have ht : ∀ w ∈ TB_, w.before args s = true := fun w h => hts w (List.mem_cons_of_mem _ h)
  have hown : s.vm.findClass cn_M = some m.cls := findClass_of_methodNamed B.named
  have hlocks := B.notSynchronized
  subst hsz
  have hD := hD0.self (sz := s.heap.size)
  generalize hAe : va_A [(h0, .inr (6, [.int bg, .ref h1, .ref h2, .ref h3, .ref h4, .ref h5, .ref h6, .ref h7, .int ln, .ref h8, .int mt, .int en, .int sx, .int pl, .int ov, .int tk, .ref h9])), (h1, .inl (cC, 6, .inl na)), (h2, .inl (cI, 2, .inl cu)), (h3, .inl (cI, 48, .inl pa)), (h4, .inl (cI, 48, .inl re)), (h5, .inl (cZ, 48, .inl cl)), (h6, .inl (cI, 48, .inl si)), (h7, .inl (cC, 288, .inl lt)), (h8, .inl (cC, 3000, .inl pg)), (h9, .inl (cC, 6, .inl rd))] s.heap.size = A at hD ⊢
  have hA : ∀ q : Nat, s.heap.size ≤ q → A q := fun q h => by rw [← hAe]; exact Or.inr h
  have hS : va_S A s.heap s.heap [] := va_S.rf
  have hP : va_P (dC, dI) vwCl [(h0, .inr (6, [.int bg, .ref h1, .ref h2, .ref h3, .ref h4, .ref h5, .ref h6, .ref h7, .int ln, .ref h8, .int mt, .int en, .int sx, .int pl, .int ov, .int tk, .ref h9])), (h1, .inl (cC, 6, .inl na)), (h2, .inl (cI, 2, .inl cu)), (h3, .inl (cI, 48, .inl pa)), (h4, .inl (cI, 48, .inl re)), (h5, .inl (cZ, 48, .inl cl)), (h6, .inl (cI, 48, .inl si)), (h7, .inl (cC, 288, .inl lt)), (h8, .inl (cC, 3000, .inl pg)), (h9, .inl (cC, 6, .inl rd))] s.heap := hP
  have hl := lv_entry [.ref h0, .int x1] (n := 2) (Nat.le_of_ble_eq_true rfl)
  have he : entryFrame m args 2 = _ := (congrArg (fun a => entryFrame m a 2) hargs).trans (lg_entry_eq m [.ref h0, .int x1] 2)
  rw [he]
  generalize (lg_sl [.ref h0, .int x1] ++ List.replicate (2 - (lg_sl [.ref h0, .int x1]).length) Slot.unset).toArray = ls at hl ⊢
  have hl : lv_has ls 2 [(0, .ref h0), (1, .int x1)] := hl
  generalize hQ : MQ below _ args s _ _ _ = Q
  unfold fn_M_add at hF
  refine lv_aload_n hx hb dd_M_add_0 rfl (lv_at hl 0 rfl) ?_
  refine va_get (D := (dC, dI)) (ci := 6) (v := .ref h8) (C := cn_M) (T := tt_M) (N := 17) hx hb ht in_M hown hK hP 0 rfl rfl 9 (by decide) (ht _ tw_3_50) (fun _ h9 => h9) rfl dd_M_add_1 ?_
  refine lv_aload_n hx hb dd_M_add_4 rfl (lv_at hl 0 rfl) ?_
  refine va_get (D := (dC, dI)) (ci := 6) (v := .int ln) (C := cn_M) (T := tt_M) (N := 17) hx hb ht in_M hown hK hP 0 rfl rfl 8 (by decide) (ht _ tw_3_49) (fun _ h9 => h9) rfl dd_M_add_5 ?_
  refine lv_iload_n hx hb dd_M_add_8 rfl (lv_at hl 1 rfl) ?_
  obtain ⟨g_6, hF⟩ := jv_gi hF
  refine va_cast hx hb hK hP hD hS 8 2 rfl rfl (jv_in g_6) dd_M_add_9 (fun H_7 locs_8 hP hD hS => ?_)
  have hP : va_P (dC, dI) vwCl [(h0, .inr (6, [.int bg, .ref h1, .ref h2, .ref h3, .ref h4, .ref h5, .ref h6, .ref h7, .int ln, .ref h8, .int mt, .int en, .int sx, .int pl, .int ov, .int tk, .ref h9])), (h1, .inl (cC, 6, .inl na)), (h2, .inl (cI, 2, .inl cu)), (h3, .inl (cI, 48, .inl pa)), (h4, .inl (cI, 48, .inl re)), (h5, .inl (cZ, 48, .inl cl)), (h6, .inl (cI, 48, .inl si)), (h7, .inl (cC, 288, .inl lt)), (h8, .inl (cC, 3000, .inl (upd pg ln.toNatClampNeg (vp_nar .char x1)))), (h9, .inl (cC, 6, .inl rd))] H_7 := hP
  have hD : va_D A [(h0, .inr (6, [.int bg, .ref h1, .ref h2, .ref h3, .ref h4, .ref h5, .ref h6, .ref h7, .int ln, .ref h8, .int mt, .int en, .int sx, .int pl, .int ov, .int tk, .ref h9])), (h1, .inl (cC, 6, .inl na)), (h2, .inl (cI, 2, .inl cu)), (h3, .inl (cI, 48, .inl pa)), (h4, .inl (cI, 48, .inl re)), (h5, .inl (cZ, 48, .inl cl)), (h6, .inl (cI, 48, .inl si)), (h7, .inl (cC, 288, .inl lt)), (h8, .inl (cC, 3000, .inl (upd pg ln.toNatClampNeg (vp_nar .char x1)))), (h9, .inl (cC, 6, .inl rd))] := hD
  refine lv_aload_n hx hb dd_M_add_10 rfl (lv_at hl 0 rfl) ?_
  refine lv_dup hx hb dd_M_add_11 rfl ?_
  refine va_get (D := (dC, dI)) (ci := 6) (v := .int ln) (C := cn_M) (T := tt_M) (N := 17) hx hb ht in_M hown hK hP 0 rfl rfl 8 (by decide) (ht _ tw_3_49) (fun _ h9 => h9) rfl dd_M_add_12 ?_
  refine lv_iconst (v := 1) hx hb dd_M_add_15 (by decide) ?_
  refine lv_iadd hx hb dd_M_add_16 ?_
  refine va_put (D := (dC, dI)) (ci := 6) (v := .int (ln + 1)) (ty := .int) (C := cn_M) (T := tt_M) (N := 17) hx hb ht in_M ty_M tyok_M nm_M hown hK hP hD hS 0 rfl rfl 8 (by decide) (ht _ tw_3_49) (fun _ h9 => h9) rfl (by decide +kernel) rfl rfl (Nat.le_of_ble_eq_true rfl) dd_M_add_17 (fun H_9 locs_10 hP hD hS => ?_)
  have hP : va_P (dC, dI) vwCl [(h0, .inr (6, [.int bg, .ref h1, .ref h2, .ref h3, .ref h4, .ref h5, .ref h6, .ref h7, .int (ln + 1), .ref h8, .int mt, .int en, .int sx, .int pl, .int ov, .int tk, .ref h9])), (h1, .inl (cC, 6, .inl na)), (h2, .inl (cI, 2, .inl cu)), (h3, .inl (cI, 48, .inl pa)), (h4, .inl (cI, 48, .inl re)), (h5, .inl (cZ, 48, .inl cl)), (h6, .inl (cI, 48, .inl si)), (h7, .inl (cC, 288, .inl lt)), (h8, .inl (cC, 3000, .inl (upd pg ln.toNatClampNeg (vp_nar .char x1)))), (h9, .inl (cC, 6, .inl rd))] H_9 := hP
  have hD : va_D A [(h0, .inr (6, [.int bg, .ref h1, .ref h2, .ref h3, .ref h4, .ref h5, .ref h6, .ref h7, .int (ln + 1), .ref h8, .int mt, .int en, .int sx, .int pl, .int ov, .int tk, .ref h9])), (h1, .inl (cC, 6, .inl na)), (h2, .inl (cI, 2, .inl cu)), (h3, .inl (cI, 48, .inl pa)), (h4, .inl (cI, 48, .inl re)), (h5, .inl (cZ, 48, .inl cl)), (h6, .inl (cI, 48, .inl si)), (h7, .inl (cC, 288, .inl lt)), (h8, .inl (cC, 3000, .inl (upd pg ln.toNatClampNeg (vp_nar .char x1)))), (h9, .inl (cC, 6, .inl rd))] := hD
  subst hQ
  obtain rfl := Option.some.inj hF
  exact W.vret hx hb hr (fun t ht hW => ⟨⟨(), rfl, trivial, by rw [ht]; exact hP, va_K.moved hW.alike hK, hD⟩, hS.F ht⟩) hS.2.2 dd_M_add_20
set_option maxHeartbeats 40000000 in
set_option maxRecDepth 100000 in
theorem c_M_addText (l : Launch) (dC : Nat → ClassId) (dI : Nat → Nat → Nat) (cI cL cC cZ : ClassId) (h0 h1 h2 h3 h4 h5 h6 h7 h8 h9 : Nat) (sz : Nat) (bg : Int32) (ln : Int32) (mt : Int32) (en : Int32) (sx : Int32) (pl : Int32) (ov : Int32) (tk : Int32) (na : Nat → Int32) (cu : Nat → Int32) (pa : Nat → Int32) (re : Nat → Int32) (cl : Nat → Int32) (si : Nat → Int32) (lt : Nat → Int32) (pg : Nat → Int32) (rd : Nat → Int32) (x1 : Int32) (out : Int32 × (Nat → Int32)) (hF : fn_M_addText ln pg x1 = some out) : Met l yy_M_addText ws_M_addText { frames := 2, cells := 0, slots := 0, locals := 44 } (mP_ (dC, dI) (tk_ cI cL cC cZ) [(h0, .inr (6, [.int bg, .ref h1, .ref h2, .ref h3, .ref h4, .ref h5, .ref h6, .ref h7, .int ln, .ref h8, .int mt, .int en, .int sx, .int pl, .int ov, .int tk, .ref h9])), (h1, .inl (cC, 6, .inl na)), (h2, .inl (cI, 2, .inl cu)), (h3, .inl (cI, 48, .inl pa)), (h4, .inl (cI, 48, .inl re)), (h5, .inl (cZ, 48, .inl cl)), (h6, .inl (cI, 48, .inl si)), (h7, .inl (cC, 288, .inl lt)), (h8, .inl (cC, 3000, .inl pg)), (h9, .inl (cC, 6, .inl rd))] sz [.ref h0, .int x1]) (va_Qv (fun _ : Unit => True) (mB_ (dC, dI) (tk_ cI cL cC cZ) [(h0, .inr (6, [.int bg, .ref h1, .ref h2, .ref h3, .ref h4, .ref h5, .ref h6, .ref h7, .int out.1, .ref h8, .int mt, .int en, .int sx, .int pl, .int ov, .int tk, .ref h9])), (h1, .inl (cC, 6, .inl na)), (h2, .inl (cI, 2, .inl cu)), (h3, .inl (cI, 48, .inl pa)), (h4, .inl (cI, 48, .inl re)), (h5, .inl (cZ, 48, .inl cl)), (h6, .inl (cI, 48, .inl si)), (h7, .inl (cC, 288, .inl lt)), (h8, .inl (cC, 3000, .inl out.2)), (h9, .inl (cC, 6, .inl rd))] (va_A [(h0, .inr (6, [.int bg, .ref h1, .ref h2, .ref h3, .ref h4, .ref h5, .ref h6, .ref h7, .int ln, .ref h8, .int mt, .int en, .int sx, .int pl, .int ov, .int tk, .ref h9])), (h1, .inl (cC, 6, .inl na)), (h2, .inl (cI, 2, .inl cu)), (h3, .inl (cI, 48, .inl pa)), (h4, .inl (cI, 48, .inl re)), (h5, .inl (cZ, 48, .inl cl)), (h6, .inl (cI, 48, .inl si)), (h7, .inl (cC, 288, .inl lt)), (h8, .inl (cC, 3000, .inl pg)), (h9, .inl (cC, 6, .inl rd))] sz)) (va_A [(h0, .inr (6, [.int bg, .ref h1, .ref h2, .ref h3, .ref h4, .ref h5, .ref h6, .ref h7, .int ln, .ref h8, .int mt, .int en, .int sx, .int pl, .int ov, .int tk, .ref h9])), (h1, .inl (cC, 6, .inl na)), (h2, .inl (cI, 2, .inl cu)), (h3, .inl (cI, 48, .inl pa)), (h4, .inl (cI, 48, .inl re)), (h5, .inl (cZ, 48, .inl cl)), (h6, .inl (cI, 48, .inl si)), (h7, .inl (cC, 288, .inl lt)), (h8, .inl (cC, 3000, .inl pg)), (h9, .inl (cC, 6, .inl rd))] sz)) 0 0 (va_A [(h0, .inr (6, [.int bg, .ref h1, .ref h2, .ref h3, .ref h4, .ref h5, .ref h6, .ref h7, .int ln, .ref h8, .int mt, .int en, .int sx, .int pl, .int ov, .int tk, .ref h9])), (h1, .inl (cC, 6, .inl na)), (h2, .inl (cI, 2, .inl cu)), (h3, .inl (cI, 48, .inl pa)), (h4, .inl (cI, 48, .inl re)), (h5, .inl (cZ, 48, .inl cl)), (h6, .inl (cI, 48, .inl si)), (h7, .inl (cC, 288, .inl lt)), (h8, .inl (cC, 3000, .inl pg)), (h9, .inl (cC, 6, .inl rd))] sz) := by
  refine Met.ofW (cc := cc_M_addText) (maxL := 3) (ret := none) (by decide) rfl ?_
  intro p e s m args below meth c s₁ B hml hv
  obtain ⟨hargs, hsz, hP, hK, hD0⟩ := hv
  have hx := B.exec
  have hb := B.bytes
  have hr := B.returns
  have hts := atoms_spec (ws := ws_M_addText) B.pre
  have ht : ∀ w ∈ TB_, w.before args s = true := fun w h => hts w (List.mem_cons_of_mem _ h)
  have hown : s.vm.findClass cn_M = some m.cls := findClass_of_methodNamed B.named
  have hlocks := B.notSynchronized
  subst hsz
  have hD := hD0.self (sz := s.heap.size)
  generalize hAe : va_A [(h0, .inr (6, [.int bg, .ref h1, .ref h2, .ref h3, .ref h4, .ref h5, .ref h6, .ref h7, .int ln, .ref h8, .int mt, .int en, .int sx, .int pl, .int ov, .int tk, .ref h9])), (h1, .inl (cC, 6, .inl na)), (h2, .inl (cI, 2, .inl cu)), (h3, .inl (cI, 48, .inl pa)), (h4, .inl (cI, 48, .inl re)), (h5, .inl (cZ, 48, .inl cl)), (h6, .inl (cI, 48, .inl si)), (h7, .inl (cC, 288, .inl lt)), (h8, .inl (cC, 3000, .inl pg)), (h9, .inl (cC, 6, .inl rd))] s.heap.size = A at hD ⊢
  have hA : ∀ q : Nat, s.heap.size ≤ q → A q := fun q h => by rw [← hAe]; exact Or.inr h
  have hS : va_S A s.heap s.heap [] := va_S.rf
  have hP : va_P (dC, dI) vwCl [(h0, .inr (6, [.int bg, .ref h1, .ref h2, .ref h3, .ref h4, .ref h5, .ref h6, .ref h7, .int ln, .ref h8, .int mt, .int en, .int sx, .int pl, .int ov, .int tk, .ref h9])), (h1, .inl (cC, 6, .inl na)), (h2, .inl (cI, 2, .inl cu)), (h3, .inl (cI, 48, .inl pa)), (h4, .inl (cI, 48, .inl re)), (h5, .inl (cZ, 48, .inl cl)), (h6, .inl (cI, 48, .inl si)), (h7, .inl (cC, 288, .inl lt)), (h8, .inl (cC, 3000, .inl pg)), (h9, .inl (cC, 6, .inl rd))] s.heap := hP
  have hl := lv_entry [.ref h0, .int x1] (n := 3) (Nat.le_of_ble_eq_true rfl)
  have he : entryFrame m args 3 = _ := (congrArg (fun a => entryFrame m a 3) hargs).trans (lg_entry_eq m [.ref h0, .int x1] 3)
  rw [he]
  generalize (lg_sl [.ref h0, .int x1] ++ List.replicate (3 - (lg_sl [.ref h0, .int x1]).length) Slot.unset).toArray = ls at hl ⊢
  have hl : lv_has ls 3 [(0, .ref h0), (1, .int x1)] := hl
  generalize hQ : MQ below _ args s _ _ _ = Q
  have lp2 : ∀ (n2 : Nat), ∀ (ln : Int32) (pg : Nat → Int32) (x1 : Int32) (x2 : Int32), fl_M_addText_2   n2 (ln, pg, x1, x2) = some out → ∀ (H : Heap) (locs : List Loc), va_P (dC, dI) vwCl [(h0, .inr (6, [.int bg, .ref h1, .ref h2, .ref h3, .ref h4, .ref h5, .ref h6, .ref h7, .int ln, .ref h8, .int mt, .int en, .int sx, .int pl, .int ov, .int tk, .ref h9])), (h1, .inl (cC, 6, .inl na)), (h2, .inl (cI, 2, .inl cu)), (h3, .inl (cI, 48, .inl pa)), (h4, .inl (cI, 48, .inl re)), (h5, .inl (cZ, 48, .inl cl)), (h6, .inl (cI, 48, .inl si)), (h7, .inl (cC, 288, .inl lt)), (h8, .inl (cC, 3000, .inl pg)), (h9, .inl (cC, 6, .inl rd))] H → va_D A [(h0, .inr (6, [.int bg, .ref h1, .ref h2, .ref h3, .ref h4, .ref h5, .ref h6, .ref h7, .int ln, .ref h8, .int mt, .int en, .int sx, .int pl, .int ov, .int tk, .ref h9])), (h1, .inl (cC, 6, .inl na)), (h2, .inl (cI, 2, .inl cu)), (h3, .inl (cI, 48, .inl pa)), (h4, .inl (cI, 48, .inl re)), (h5, .inl (cZ, 48, .inl cl)), (h6, .inl (cI, 48, .inl si)), (h7, .inl (cC, 288, .inl lt)), (h8, .inl (cC, 3000, .inl pg)), (h9, .inl (cC, 6, .inl rd))] → va_S A s.heap H locs → ∀ ls : Array Slot, lv_has ls 3 [(0, .ref h0), (1, .int x1), (2, .int x2)] → W p l e (headSpec ws_M_addText { frames := 2, cells := 0, slots := 0, locals := 44 }).room s m args below meth c H locs 0 0 Q (F0 m 2 ls []) := by
    intro n2
    induction n2 with
    | zero =>
      intro ln pg x1 x2 hF
      exact (jv_no hF).elim
    | succ n2 ih2 =>
      intro ln pg x1 x2 hF H locs hP hD hS ls hl
      have hF : fb_M_addText_2   (fl_M_addText_2   n2) ln pg x1 x2 = some out := hF
      unfold fb_M_addText_2 at hF
      refine lv_iload_n hx hb dd_M_addText_2 rfl (lv_at hl 1 rfl) ?_
      refine lv_iload_n hx hb dd_M_addText_3 rfl (lv_at hl 2 rfl) ?_
      obtain ⟨o_4, ho_4, hF⟩ := jv_bi hF
      refine jv_ci (va_runS (As := [.int x1, .int x2]) (rest := []) ⟨hx, hb, hml, hown, ht⟩ (c_M_letterOf l dC dI cI cL cC cZ H.size x1 x2 _ ho_4) (va_cwS 2 ht (gi_S tw_3_162 tw_3_163 tw_1_4 tw_3_164) rfl rfl rfl (by decide +kernel) ⟨Nat.le_of_ble_eq_true rfl, Nat.le_of_ble_eq_true rfl⟩) (jv_ps hK hP hD [] rfl (by decide) rfl) rfl rfl hl.1 rfl (lv_room (Nat.le_of_ble_eq_true rfl)) dd_M_addText_4 ⟨Nat.le_of_ble_eq_true rfl, Nat.le_of_ble_eq_true rfl⟩) ?_
      refine lv_if_eq (tgt := 25) hx hb dd_M_addText_7 (by decide) (fun c_4 => ?_) (fun c_4 => ?_)
      · have hF := jv_t c_4 hF
        subst hQ
        obtain rfl := Option.some.inj hF
        exact W.vret hx hb hr (fun t ht hW => ⟨⟨(), rfl, trivial, by rw [ht]; exact hP, va_K.moved hW.alike hK, hD⟩, hS.F ht⟩) hS.2.2 dd_M_addText_25
      · have hF := jv_f c_4 hF
        refine lv_aload_n hx hb dd_M_addText_10 rfl (lv_at hl 0 rfl) ?_
        refine lv_iload_n hx hb dd_M_addText_11 rfl (lv_at hl 1 rfl) ?_
        refine lv_iload_n hx hb dd_M_addText_12 rfl (lv_at hl 2 rfl) ?_
        obtain ⟨o_13, ho_13, hF⟩ := jv_bi hF
        refine jv_ci (va_runS (As := [.int x1, .int x2]) (rest := [.ref h0]) ⟨hx, hb, hml, hown, ht⟩ (c_M_letterOf l dC dI cI cL cC cZ H.size x1 x2 _ ho_13) (va_cwS 2 ht (gi_S tw_3_162 tw_3_163 tw_1_4 tw_3_164) rfl rfl rfl (by decide +kernel) ⟨Nat.le_of_ble_eq_true rfl, Nat.le_of_ble_eq_true rfl⟩) (jv_ps hK hP hD [] rfl (by decide) rfl) rfl rfl hl.1 rfl (lv_room (Nat.le_of_ble_eq_true rfl)) dd_M_addText_13 ⟨Nat.le_of_ble_eq_true rfl, Nat.le_of_ble_eq_true rfl⟩) ?_
        obtain ⟨o_16, ho_16, hF⟩ := jv_bi hF
        refine jv_mv (wr := []) (w1 := [(h0, .inr (6, [.int bg, .ref h1, .ref h2, .ref h3, .ref h4, .ref h5, .ref h6, .ref h7, .int o_16.1, .ref h8, .int mt, .int en, .int sx, .int pl, .int ov, .int tk, .ref h9])), (h1, .inl (cC, 6, .inl na)), (h2, .inl (cI, 2, .inl cu)), (h3, .inl (cI, 48, .inl pa)), (h4, .inl (cI, 48, .inl re)), (h5, .inl (cZ, 48, .inl cl)), (h6, .inl (cI, 48, .inl si)), (h7, .inl (cC, 288, .inl lt)), (h8, .inl (cC, 3000, .inl o_16.2)), (h9, .inl (cC, 6, .inl rd))]) (va_runV (C := cn_M) (As := [.int o_13]) (rest := []) ⟨hx, hb, hml, hown, ht⟩ (c_M_add l dC dI cI cL cC cZ h0 h1 h2 h3 h4 h5 h6 h7 h8 h9 H.size bg ln mt en sx pl ov tk na cu pa re cl si lt pg rd o_13 _ ho_16) (cwV 1 ht (gi_V tw_3_181 tw_3_183 tw_p_21 tw_1_4 tw_3_184) rfl rfl rfl (by decide +kernel) ⟨Nat.le_of_ble_eq_true rfl, Nat.le_of_ble_eq_true rfl⟩) (jv_pv hK hP hD [0, 1, 2, 3, 4, 5, 6, 7, 8, 9] rfl (by decide) rfl (va_recv hK hP (ci := 6) (q0 := 0) rfl rfl)) rfl rfl hl.1 rfl (lv_room (Nat.le_of_ble_eq_true rfl)) dd_M_addText_16 ⟨Nat.le_of_ble_eq_true rfl, Nat.le_of_ble_eq_true rfl⟩) hP hD hS hA [0, 1, 2, 3, 4, 5, 6, 7, 8, 9] [] rfl rfl (by decide) (by decide) (fun H_5 locs_6 hP hD hS => ?_)
        have hP : va_P (dC, dI) vwCl [(h0, .inr (6, [.int bg, .ref h1, .ref h2, .ref h3, .ref h4, .ref h5, .ref h6, .ref h7, .int o_16.1, .ref h8, .int mt, .int en, .int sx, .int pl, .int ov, .int tk, .ref h9])), (h1, .inl (cC, 6, .inl na)), (h2, .inl (cI, 2, .inl cu)), (h3, .inl (cI, 48, .inl pa)), (h4, .inl (cI, 48, .inl re)), (h5, .inl (cZ, 48, .inl cl)), (h6, .inl (cI, 48, .inl si)), (h7, .inl (cC, 288, .inl lt)), (h8, .inl (cC, 3000, .inl o_16.2)), (h9, .inl (cC, 6, .inl rd))] H_5 := hP.sub [0, 1, 2, 3, 4, 5, 6, 7, 8, 9] rfl
        have hD : va_D A [(h0, .inr (6, [.int bg, .ref h1, .ref h2, .ref h3, .ref h4, .ref h5, .ref h6, .ref h7, .int o_16.1, .ref h8, .int mt, .int en, .int sx, .int pl, .int ov, .int tk, .ref h9])), (h1, .inl (cC, 6, .inl na)), (h2, .inl (cI, 2, .inl cu)), (h3, .inl (cI, 48, .inl pa)), (h4, .inl (cI, 48, .inl re)), (h5, .inl (cZ, 48, .inl cl)), (h6, .inl (cI, 48, .inl si)), (h7, .inl (cC, 288, .inl lt)), (h8, .inl (cC, 3000, .inl o_16.2)), (h9, .inl (cC, 6, .inl rd))] := hD.sub [0, 1, 2, 3, 4, 5, 6, 7, 8, 9] (by decide) rfl
        refine lv_iinc (v := x2 + 1) (lv' := [(2, .int (x2 + 1)), (0, .ref h0), (1, .int x1)]) hx hb dd_M_addText_19 hl (k := 2) rfl rfl (by decide) rfl (fun ls hl => ?_)
        refine lv_goto (tgt := 2) hx hb dd_M_addText_22 (by decide) ?_
        exact ih2 o_16.1 o_16.2 x1 (x2 + 1) hF H_5 locs_6 hP hD hS ls (lv_sub hl [1, 2, 0] rfl)
  unfold fn_M_addText at hF
  refine lv_iconst (v := 0) hx hb dd_M_addText_0 (by decide) ?_
  refine lv_istore_n (lv' := [(2, .int 0), (0, .ref h0), (1, .int x1)]) hx hb dd_M_addText_1 rfl hl (by decide) rfl (fun ls hl => ?_)
  exact lp2 4000 ln pg x1 0 hF s.heap [] hP hD hS ls (lv_sub hl [1, 2, 0] rfl)
set_option maxHeartbeats 40000000 in
set_option maxRecDepth 100000 in
theorem c_M_addSpaces (l : Launch) (dC : Nat → ClassId) (dI : Nat → Nat → Nat) (cI cL cC cZ : ClassId) (h0 h1 h2 h3 h4 h5 h6 h7 h8 h9 : Nat) (sz : Nat) (bg : Int32) (ln : Int32) (mt : Int32) (en : Int32) (sx : Int32) (pl : Int32) (ov : Int32) (tk : Int32) (na : Nat → Int32) (cu : Nat → Int32) (pa : Nat → Int32) (re : Nat → Int32) (cl : Nat → Int32) (si : Nat → Int32) (lt : Nat → Int32) (pg : Nat → Int32) (rd : Nat → Int32) (x1 : Int32) (out : Int32 × (Nat → Int32)) (hF : fn_M_addSpaces ln pg x1 = some out) : Met l yy_M_addSpaces ws_M_addSpaces { frames := 1, cells := 0, slots := 0, locals := 21 } (mP_ (dC, dI) (tk_ cI cL cC cZ) [(h0, .inr (6, [.int bg, .ref h1, .ref h2, .ref h3, .ref h4, .ref h5, .ref h6, .ref h7, .int ln, .ref h8, .int mt, .int en, .int sx, .int pl, .int ov, .int tk, .ref h9])), (h1, .inl (cC, 6, .inl na)), (h2, .inl (cI, 2, .inl cu)), (h3, .inl (cI, 48, .inl pa)), (h4, .inl (cI, 48, .inl re)), (h5, .inl (cZ, 48, .inl cl)), (h6, .inl (cI, 48, .inl si)), (h7, .inl (cC, 288, .inl lt)), (h8, .inl (cC, 3000, .inl pg)), (h9, .inl (cC, 6, .inl rd))] sz [.ref h0, .int x1]) (va_Qv (fun _ : Unit => True) (mB_ (dC, dI) (tk_ cI cL cC cZ) [(h0, .inr (6, [.int bg, .ref h1, .ref h2, .ref h3, .ref h4, .ref h5, .ref h6, .ref h7, .int out.1, .ref h8, .int mt, .int en, .int sx, .int pl, .int ov, .int tk, .ref h9])), (h1, .inl (cC, 6, .inl na)), (h2, .inl (cI, 2, .inl cu)), (h3, .inl (cI, 48, .inl pa)), (h4, .inl (cI, 48, .inl re)), (h5, .inl (cZ, 48, .inl cl)), (h6, .inl (cI, 48, .inl si)), (h7, .inl (cC, 288, .inl lt)), (h8, .inl (cC, 3000, .inl out.2)), (h9, .inl (cC, 6, .inl rd))] (va_A [(h0, .inr (6, [.int bg, .ref h1, .ref h2, .ref h3, .ref h4, .ref h5, .ref h6, .ref h7, .int ln, .ref h8, .int mt, .int en, .int sx, .int pl, .int ov, .int tk, .ref h9])), (h1, .inl (cC, 6, .inl na)), (h2, .inl (cI, 2, .inl cu)), (h3, .inl (cI, 48, .inl pa)), (h4, .inl (cI, 48, .inl re)), (h5, .inl (cZ, 48, .inl cl)), (h6, .inl (cI, 48, .inl si)), (h7, .inl (cC, 288, .inl lt)), (h8, .inl (cC, 3000, .inl pg)), (h9, .inl (cC, 6, .inl rd))] sz)) (va_A [(h0, .inr (6, [.int bg, .ref h1, .ref h2, .ref h3, .ref h4, .ref h5, .ref h6, .ref h7, .int ln, .ref h8, .int mt, .int en, .int sx, .int pl, .int ov, .int tk, .ref h9])), (h1, .inl (cC, 6, .inl na)), (h2, .inl (cI, 2, .inl cu)), (h3, .inl (cI, 48, .inl pa)), (h4, .inl (cI, 48, .inl re)), (h5, .inl (cZ, 48, .inl cl)), (h6, .inl (cI, 48, .inl si)), (h7, .inl (cC, 288, .inl lt)), (h8, .inl (cC, 3000, .inl pg)), (h9, .inl (cC, 6, .inl rd))] sz)) 0 0 (va_A [(h0, .inr (6, [.int bg, .ref h1, .ref h2, .ref h3, .ref h4, .ref h5, .ref h6, .ref h7, .int ln, .ref h8, .int mt, .int en, .int sx, .int pl, .int ov, .int tk, .ref h9])), (h1, .inl (cC, 6, .inl na)), (h2, .inl (cI, 2, .inl cu)), (h3, .inl (cI, 48, .inl pa)), (h4, .inl (cI, 48, .inl re)), (h5, .inl (cZ, 48, .inl cl)), (h6, .inl (cI, 48, .inl si)), (h7, .inl (cC, 288, .inl lt)), (h8, .inl (cC, 3000, .inl pg)), (h9, .inl (cC, 6, .inl rd))] sz) := by
  refine Met.ofW (cc := cc_M_addSpaces) (maxL := 3) (ret := none) (by decide) rfl ?_
  intro p e s m args below meth c s₁ B hml hv
  obtain ⟨hargs, hsz, hP, hK, hD0⟩ := hv
  have hx := B.exec
  have hb := B.bytes
  have hr := B.returns
  have hts := atoms_spec (ws := ws_M_addSpaces) B.pre
  have ht : ∀ w ∈ TB_, w.before args s = true := fun w h => hts w (List.mem_cons_of_mem _ h)
  have hown : s.vm.findClass cn_M = some m.cls := findClass_of_methodNamed B.named
  have hlocks := B.notSynchronized
  subst hsz
  have hD := hD0.self (sz := s.heap.size)
  generalize hAe : va_A [(h0, .inr (6, [.int bg, .ref h1, .ref h2, .ref h3, .ref h4, .ref h5, .ref h6, .ref h7, .int ln, .ref h8, .int mt, .int en, .int sx, .int pl, .int ov, .int tk, .ref h9])), (h1, .inl (cC, 6, .inl na)), (h2, .inl (cI, 2, .inl cu)), (h3, .inl (cI, 48, .inl pa)), (h4, .inl (cI, 48, .inl re)), (h5, .inl (cZ, 48, .inl cl)), (h6, .inl (cI, 48, .inl si)), (h7, .inl (cC, 288, .inl lt)), (h8, .inl (cC, 3000, .inl pg)), (h9, .inl (cC, 6, .inl rd))] s.heap.size = A at hD ⊢
  have hA : ∀ q : Nat, s.heap.size ≤ q → A q := fun q h => by rw [← hAe]; exact Or.inr h
  have hS : va_S A s.heap s.heap [] := va_S.rf
  have hP : va_P (dC, dI) vwCl [(h0, .inr (6, [.int bg, .ref h1, .ref h2, .ref h3, .ref h4, .ref h5, .ref h6, .ref h7, .int ln, .ref h8, .int mt, .int en, .int sx, .int pl, .int ov, .int tk, .ref h9])), (h1, .inl (cC, 6, .inl na)), (h2, .inl (cI, 2, .inl cu)), (h3, .inl (cI, 48, .inl pa)), (h4, .inl (cI, 48, .inl re)), (h5, .inl (cZ, 48, .inl cl)), (h6, .inl (cI, 48, .inl si)), (h7, .inl (cC, 288, .inl lt)), (h8, .inl (cC, 3000, .inl pg)), (h9, .inl (cC, 6, .inl rd))] s.heap := hP
  have hl := lv_entry [.ref h0, .int x1] (n := 3) (Nat.le_of_ble_eq_true rfl)
  have he : entryFrame m args 3 = _ := (congrArg (fun a => entryFrame m a 3) hargs).trans (lg_entry_eq m [.ref h0, .int x1] 3)
  rw [he]
  generalize (lg_sl [.ref h0, .int x1] ++ List.replicate (3 - (lg_sl [.ref h0, .int x1]).length) Slot.unset).toArray = ls at hl ⊢
  have hl : lv_has ls 3 [(0, .ref h0), (1, .int x1)] := hl
  generalize hQ : MQ below _ args s _ _ _ = Q
  have lp2 : ∀ (n2 : Nat), ∀ (ln : Int32) (pg : Nat → Int32) (x1 : Int32) (x2 : Int32), fl_M_addSpaces_2   n2 (ln, pg, x1, x2) = some out → ∀ (H : Heap) (locs : List Loc), va_P (dC, dI) vwCl [(h0, .inr (6, [.int bg, .ref h1, .ref h2, .ref h3, .ref h4, .ref h5, .ref h6, .ref h7, .int ln, .ref h8, .int mt, .int en, .int sx, .int pl, .int ov, .int tk, .ref h9])), (h1, .inl (cC, 6, .inl na)), (h2, .inl (cI, 2, .inl cu)), (h3, .inl (cI, 48, .inl pa)), (h4, .inl (cI, 48, .inl re)), (h5, .inl (cZ, 48, .inl cl)), (h6, .inl (cI, 48, .inl si)), (h7, .inl (cC, 288, .inl lt)), (h8, .inl (cC, 3000, .inl pg)), (h9, .inl (cC, 6, .inl rd))] H → va_D A [(h0, .inr (6, [.int bg, .ref h1, .ref h2, .ref h3, .ref h4, .ref h5, .ref h6, .ref h7, .int ln, .ref h8, .int mt, .int en, .int sx, .int pl, .int ov, .int tk, .ref h9])), (h1, .inl (cC, 6, .inl na)), (h2, .inl (cI, 2, .inl cu)), (h3, .inl (cI, 48, .inl pa)), (h4, .inl (cI, 48, .inl re)), (h5, .inl (cZ, 48, .inl cl)), (h6, .inl (cI, 48, .inl si)), (h7, .inl (cC, 288, .inl lt)), (h8, .inl (cC, 3000, .inl pg)), (h9, .inl (cC, 6, .inl rd))] → va_S A s.heap H locs → ∀ ls : Array Slot, lv_has ls 3 [(0, .ref h0), (1, .int x1), (2, .int x2)] → W p l e (headSpec ws_M_addSpaces { frames := 1, cells := 0, slots := 0, locals := 21 }).room s m args below meth c H locs 0 0 Q (F0 m 2 ls []) := by
    intro n2
    induction n2 with
    | zero =>
      intro ln pg x1 x2 hF
      exact (jv_no hF).elim
    | succ n2 ih2 =>
      intro ln pg x1 x2 hF H locs hP hD hS ls hl
      have hF : fb_M_addSpaces_2   (fl_M_addSpaces_2   n2) ln pg x1 x2 = some out := hF
      unfold fb_M_addSpaces_2 at hF
      refine lv_iload_n hx hb dd_M_addSpaces_2 rfl (lv_at hl 2 rfl) ?_
      refine lv_iconst (v := 4) hx hb dd_M_addSpaces_3 (by decide) ?_
      refine lv_iload_n hx hb dd_M_addSpaces_4 rfl (lv_at hl 1 rfl) ?_
      refine lv_imul hx hb dd_M_addSpaces_5 ?_
      refine lv_icmp_ge (tgt := 21) hx hb dd_M_addSpaces_6 (by decide) (fun c_4 => ?_) (fun c_4 => ?_)
      · have hF := jv_t c_4 hF
        subst hQ
        obtain rfl := Option.some.inj hF
        exact W.vret hx hb hr (fun t ht hW => ⟨⟨(), rfl, trivial, by rw [ht]; exact hP, va_K.moved hW.alike hK, hD⟩, hS.F ht⟩) hS.2.2 dd_M_addSpaces_21
      · have hF := jv_f c_4 hF
        refine lv_aload_n hx hb dd_M_addSpaces_9 rfl (lv_at hl 0 rfl) ?_
        refine lv_bipush (v := 32) hx hb dd_M_addSpaces_10 (by decide) ?_
        obtain ⟨o_12, ho_12, hF⟩ := jv_bi hF
        refine jv_mv (wr := []) (w1 := [(h0, .inr (6, [.int bg, .ref h1, .ref h2, .ref h3, .ref h4, .ref h5, .ref h6, .ref h7, .int o_12.1, .ref h8, .int mt, .int en, .int sx, .int pl, .int ov, .int tk, .ref h9])), (h1, .inl (cC, 6, .inl na)), (h2, .inl (cI, 2, .inl cu)), (h3, .inl (cI, 48, .inl pa)), (h4, .inl (cI, 48, .inl re)), (h5, .inl (cZ, 48, .inl cl)), (h6, .inl (cI, 48, .inl si)), (h7, .inl (cC, 288, .inl lt)), (h8, .inl (cC, 3000, .inl o_12.2)), (h9, .inl (cC, 6, .inl rd))]) (va_runV (C := cn_M) (As := [.int 32]) (rest := []) ⟨hx, hb, hml, hown, ht⟩ (c_M_add l dC dI cI cL cC cZ h0 h1 h2 h3 h4 h5 h6 h7 h8 h9 H.size bg ln mt en sx pl ov tk na cu pa re cl si lt pg rd 32 _ ho_12) (cwV 1 ht (gi_V tw_3_181 tw_3_183 tw_p_21 tw_1_4 tw_3_184) rfl rfl rfl (by decide +kernel) ⟨Nat.le_of_ble_eq_true rfl, Nat.le_of_ble_eq_true rfl⟩) (jv_pv hK hP hD [0, 1, 2, 3, 4, 5, 6, 7, 8, 9] rfl (by decide) rfl (va_recv hK hP (ci := 6) (q0 := 0) rfl rfl)) rfl rfl hl.1 rfl (lv_room (Nat.le_of_ble_eq_true rfl)) dd_M_addSpaces_12 ⟨Nat.le_of_ble_eq_true rfl, Nat.le_of_ble_eq_true rfl⟩) hP hD hS hA [0, 1, 2, 3, 4, 5, 6, 7, 8, 9] [] rfl rfl (by decide) (by decide) (fun H_5 locs_6 hP hD hS => ?_)
        have hP : va_P (dC, dI) vwCl [(h0, .inr (6, [.int bg, .ref h1, .ref h2, .ref h3, .ref h4, .ref h5, .ref h6, .ref h7, .int o_12.1, .ref h8, .int mt, .int en, .int sx, .int pl, .int ov, .int tk, .ref h9])), (h1, .inl (cC, 6, .inl na)), (h2, .inl (cI, 2, .inl cu)), (h3, .inl (cI, 48, .inl pa)), (h4, .inl (cI, 48, .inl re)), (h5, .inl (cZ, 48, .inl cl)), (h6, .inl (cI, 48, .inl si)), (h7, .inl (cC, 288, .inl lt)), (h8, .inl (cC, 3000, .inl o_12.2)), (h9, .inl (cC, 6, .inl rd))] H_5 := hP.sub [0, 1, 2, 3, 4, 5, 6, 7, 8, 9] rfl
        have hD : va_D A [(h0, .inr (6, [.int bg, .ref h1, .ref h2, .ref h3, .ref h4, .ref h5, .ref h6, .ref h7, .int o_12.1, .ref h8, .int mt, .int en, .int sx, .int pl, .int ov, .int tk, .ref h9])), (h1, .inl (cC, 6, .inl na)), (h2, .inl (cI, 2, .inl cu)), (h3, .inl (cI, 48, .inl pa)), (h4, .inl (cI, 48, .inl re)), (h5, .inl (cZ, 48, .inl cl)), (h6, .inl (cI, 48, .inl si)), (h7, .inl (cC, 288, .inl lt)), (h8, .inl (cC, 3000, .inl o_12.2)), (h9, .inl (cC, 6, .inl rd))] := hD.sub [0, 1, 2, 3, 4, 5, 6, 7, 8, 9] (by decide) rfl
        refine lv_iinc (v := x2 + 1) (lv' := [(2, .int (x2 + 1)), (0, .ref h0), (1, .int x1)]) hx hb dd_M_addSpaces_15 hl (k := 2) rfl rfl (by decide) rfl (fun ls hl => ?_)
        refine lv_goto (tgt := 2) hx hb dd_M_addSpaces_18 (by decide) ?_
        exact ih2 o_12.1 o_12.2 x1 (x2 + 1) hF H_5 locs_6 hP hD hS ls (lv_sub hl [1, 2, 0] rfl)
  unfold fn_M_addSpaces at hF
  refine lv_iconst (v := 0) hx hb dd_M_addSpaces_0 (by decide) ?_
  refine lv_istore_n (lv' := [(2, .int 0), (0, .ref h0), (1, .int x1)]) hx hb dd_M_addSpaces_1 rfl hl (by decide) rfl (fun ls hl => ?_)
  exact lp2 4000 ln pg x1 0 hF s.heap [] hP hD hS ls (lv_sub hl [1, 2, 0] rfl)
set_option maxHeartbeats 40000000 in
set_option maxRecDepth 100000 in
theorem c_M_addNumber (l : Launch) (dC : Nat → ClassId) (dI : Nat → Nat → Nat) (cI cL cC cZ : ClassId) (h0 h1 h2 h3 h4 h5 h6 h7 h8 h9 : Nat) (sz : Nat) (bg : Int32) (ln : Int32) (mt : Int32) (en : Int32) (sx : Int32) (pl : Int32) (ov : Int32) (tk : Int32) (na : Nat → Int32) (cu : Nat → Int32) (pa : Nat → Int32) (re : Nat → Int32) (cl : Nat → Int32) (si : Nat → Int32) (lt : Nat → Int32) (pg : Nat → Int32) (rd : Nat → Int32) (x1 : Int32) (out : Int32 × (Nat → Int32)) (hF : fn_M_addNumber ln pg x1 = some out) : Met l yy_M_addNumber ws_M_addNumber { frames := 1, cells := 0, slots := 0, locals := 21 } (mP_ (dC, dI) (tk_ cI cL cC cZ) [(h0, .inr (6, [.int bg, .ref h1, .ref h2, .ref h3, .ref h4, .ref h5, .ref h6, .ref h7, .int ln, .ref h8, .int mt, .int en, .int sx, .int pl, .int ov, .int tk, .ref h9])), (h1, .inl (cC, 6, .inl na)), (h2, .inl (cI, 2, .inl cu)), (h3, .inl (cI, 48, .inl pa)), (h4, .inl (cI, 48, .inl re)), (h5, .inl (cZ, 48, .inl cl)), (h6, .inl (cI, 48, .inl si)), (h7, .inl (cC, 288, .inl lt)), (h8, .inl (cC, 3000, .inl pg)), (h9, .inl (cC, 6, .inl rd))] sz [.ref h0, .int x1]) (va_Qv (fun _ : Unit => True) (mB_ (dC, dI) (tk_ cI cL cC cZ) [(h0, .inr (6, [.int bg, .ref h1, .ref h2, .ref h3, .ref h4, .ref h5, .ref h6, .ref h7, .int out.1, .ref h8, .int mt, .int en, .int sx, .int pl, .int ov, .int tk, .ref h9])), (h1, .inl (cC, 6, .inl na)), (h2, .inl (cI, 2, .inl cu)), (h3, .inl (cI, 48, .inl pa)), (h4, .inl (cI, 48, .inl re)), (h5, .inl (cZ, 48, .inl cl)), (h6, .inl (cI, 48, .inl si)), (h7, .inl (cC, 288, .inl lt)), (h8, .inl (cC, 3000, .inl out.2)), (h9, .inl (cC, 6, .inl rd))] (va_A [(h0, .inr (6, [.int bg, .ref h1, .ref h2, .ref h3, .ref h4, .ref h5, .ref h6, .ref h7, .int ln, .ref h8, .int mt, .int en, .int sx, .int pl, .int ov, .int tk, .ref h9])), (h1, .inl (cC, 6, .inl na)), (h2, .inl (cI, 2, .inl cu)), (h3, .inl (cI, 48, .inl pa)), (h4, .inl (cI, 48, .inl re)), (h5, .inl (cZ, 48, .inl cl)), (h6, .inl (cI, 48, .inl si)), (h7, .inl (cC, 288, .inl lt)), (h8, .inl (cC, 3000, .inl pg)), (h9, .inl (cC, 6, .inl rd))] sz)) (va_A [(h0, .inr (6, [.int bg, .ref h1, .ref h2, .ref h3, .ref h4, .ref h5, .ref h6, .ref h7, .int ln, .ref h8, .int mt, .int en, .int sx, .int pl, .int ov, .int tk, .ref h9])), (h1, .inl (cC, 6, .inl na)), (h2, .inl (cI, 2, .inl cu)), (h3, .inl (cI, 48, .inl pa)), (h4, .inl (cI, 48, .inl re)), (h5, .inl (cZ, 48, .inl cl)), (h6, .inl (cI, 48, .inl si)), (h7, .inl (cC, 288, .inl lt)), (h8, .inl (cC, 3000, .inl pg)), (h9, .inl (cC, 6, .inl rd))] sz)) 0 0 (va_A [(h0, .inr (6, [.int bg, .ref h1, .ref h2, .ref h3, .ref h4, .ref h5, .ref h6, .ref h7, .int ln, .ref h8, .int mt, .int en, .int sx, .int pl, .int ov, .int tk, .ref h9])), (h1, .inl (cC, 6, .inl na)), (h2, .inl (cI, 2, .inl cu)), (h3, .inl (cI, 48, .inl pa)), (h4, .inl (cI, 48, .inl re)), (h5, .inl (cZ, 48, .inl cl)), (h6, .inl (cI, 48, .inl si)), (h7, .inl (cC, 288, .inl lt)), (h8, .inl (cC, 3000, .inl pg)), (h9, .inl (cC, 6, .inl rd))] sz) := by
  refine Met.ofW (cc := cc_M_addNumber) (maxL := 2) (ret := none) (by decide) rfl ?_
  intro p e s m args below meth c s₁ B hml hv
  obtain ⟨hargs, hsz, hP, hK, hD0⟩ := hv
  have hx := B.exec
  have hb := B.bytes
  have hr := B.returns
  have hts := atoms_spec (ws := ws_M_addNumber) B.pre
  have ht : ∀ w ∈ TB_, w.before args s = true := fun w h => hts w (List.mem_cons_of_mem _ h)
  have hown : s.vm.findClass cn_M = some m.cls := findClass_of_methodNamed B.named
  have hlocks := B.notSynchronized
  subst hsz
  have hD := hD0.self (sz := s.heap.size)
  generalize hAe : va_A [(h0, .inr (6, [.int bg, .ref h1, .ref h2, .ref h3, .ref h4, .ref h5, .ref h6, .ref h7, .int ln, .ref h8, .int mt, .int en, .int sx, .int pl, .int ov, .int tk, .ref h9])), (h1, .inl (cC, 6, .inl na)), (h2, .inl (cI, 2, .inl cu)), (h3, .inl (cI, 48, .inl pa)), (h4, .inl (cI, 48, .inl re)), (h5, .inl (cZ, 48, .inl cl)), (h6, .inl (cI, 48, .inl si)), (h7, .inl (cC, 288, .inl lt)), (h8, .inl (cC, 3000, .inl pg)), (h9, .inl (cC, 6, .inl rd))] s.heap.size = A at hD ⊢
  have hA : ∀ q : Nat, s.heap.size ≤ q → A q := fun q h => by rw [← hAe]; exact Or.inr h
  have hS : va_S A s.heap s.heap [] := va_S.rf
  have hP : va_P (dC, dI) vwCl [(h0, .inr (6, [.int bg, .ref h1, .ref h2, .ref h3, .ref h4, .ref h5, .ref h6, .ref h7, .int ln, .ref h8, .int mt, .int en, .int sx, .int pl, .int ov, .int tk, .ref h9])), (h1, .inl (cC, 6, .inl na)), (h2, .inl (cI, 2, .inl cu)), (h3, .inl (cI, 48, .inl pa)), (h4, .inl (cI, 48, .inl re)), (h5, .inl (cZ, 48, .inl cl)), (h6, .inl (cI, 48, .inl si)), (h7, .inl (cC, 288, .inl lt)), (h8, .inl (cC, 3000, .inl pg)), (h9, .inl (cC, 6, .inl rd))] s.heap := hP
  have hl := lv_entry [.ref h0, .int x1] (n := 2) (Nat.le_of_ble_eq_true rfl)
  have he : entryFrame m args 2 = _ := (congrArg (fun a => entryFrame m a 2) hargs).trans (lg_entry_eq m [.ref h0, .int x1] 2)
  rw [he]
  generalize (lg_sl [.ref h0, .int x1] ++ List.replicate (2 - (lg_sl [.ref h0, .int x1]).length) Slot.unset).toArray = ls at hl ⊢
  have hl : lv_has ls 2 [(0, .ref h0), (1, .int x1)] := hl
  generalize hQ : MQ below _ args s _ _ _ = Q
  have bl18 : ∀ (ln : Int32) (pg : Nat → Int32) (x1 : Int32), fb_M_addNumber_18   ln pg x1 = some out → ∀ (H : Heap) (locs : List Loc), va_P (dC, dI) vwCl [(h0, .inr (6, [.int bg, .ref h1, .ref h2, .ref h3, .ref h4, .ref h5, .ref h6, .ref h7, .int ln, .ref h8, .int mt, .int en, .int sx, .int pl, .int ov, .int tk, .ref h9])), (h1, .inl (cC, 6, .inl na)), (h2, .inl (cI, 2, .inl cu)), (h3, .inl (cI, 48, .inl pa)), (h4, .inl (cI, 48, .inl re)), (h5, .inl (cZ, 48, .inl cl)), (h6, .inl (cI, 48, .inl si)), (h7, .inl (cC, 288, .inl lt)), (h8, .inl (cC, 3000, .inl pg)), (h9, .inl (cC, 6, .inl rd))] H → va_D A [(h0, .inr (6, [.int bg, .ref h1, .ref h2, .ref h3, .ref h4, .ref h5, .ref h6, .ref h7, .int ln, .ref h8, .int mt, .int en, .int sx, .int pl, .int ov, .int tk, .ref h9])), (h1, .inl (cC, 6, .inl na)), (h2, .inl (cI, 2, .inl cu)), (h3, .inl (cI, 48, .inl pa)), (h4, .inl (cI, 48, .inl re)), (h5, .inl (cZ, 48, .inl cl)), (h6, .inl (cI, 48, .inl si)), (h7, .inl (cC, 288, .inl lt)), (h8, .inl (cC, 3000, .inl pg)), (h9, .inl (cC, 6, .inl rd))] → va_S A s.heap H locs → ∀ ls : Array Slot, lv_has ls 2 [(0, .ref h0), (1, .int x1)] → W p l e (headSpec ws_M_addNumber { frames := 1, cells := 0, slots := 0, locals := 21 }).room s m args below meth c H locs 0 0 Q (F0 m 18 ls []) := by
    intro ln pg x1 hF H locs hP hD hS ls hl
    unfold fb_M_addNumber_18 at hF
    refine lv_aload_n hx hb dd_M_addNumber_18 rfl (lv_at hl 0 rfl) ?_
    refine lv_bipush (v := 48) hx hb dd_M_addNumber_19 (by decide) ?_
    refine lv_iload_n hx hb dd_M_addNumber_21 rfl (lv_at hl 1 rfl) ?_
    refine lv_bipush (v := 10) hx hb dd_M_addNumber_22 (by decide) ?_
    refine lv_irem hx hb dd_M_addNumber_24 (by decide) ?_
    refine lv_iadd hx hb dd_M_addNumber_25 ?_
    refine lv_i2c hx hb dd_M_addNumber_26 rfl ?_
    obtain ⟨o_27, ho_27, hF⟩ := jv_bi hF
    refine jv_mv (wr := []) (w1 := [(h0, .inr (6, [.int bg, .ref h1, .ref h2, .ref h3, .ref h4, .ref h5, .ref h6, .ref h7, .int o_27.1, .ref h8, .int mt, .int en, .int sx, .int pl, .int ov, .int tk, .ref h9])), (h1, .inl (cC, 6, .inl na)), (h2, .inl (cI, 2, .inl cu)), (h3, .inl (cI, 48, .inl pa)), (h4, .inl (cI, 48, .inl re)), (h5, .inl (cZ, 48, .inl cl)), (h6, .inl (cI, 48, .inl si)), (h7, .inl (cC, 288, .inl lt)), (h8, .inl (cC, 3000, .inl o_27.2)), (h9, .inl (cC, 6, .inl rd))]) (va_runV (C := cn_M) (As := [.int (((48 + (x1 - x1 / 10 * 10)).toUInt32 % 65536).toInt32)]) (rest := []) ⟨hx, hb, hml, hown, ht⟩ (c_M_add l dC dI cI cL cC cZ h0 h1 h2 h3 h4 h5 h6 h7 h8 h9 H.size bg ln mt en sx pl ov tk na cu pa re cl si lt pg rd (((48 + (x1 - x1 / 10 * 10)).toUInt32 % 65536).toInt32) _ ho_27) (cwV 1 ht (gi_V tw_3_181 tw_3_183 tw_p_21 tw_1_4 tw_3_184) rfl rfl rfl (by decide +kernel) ⟨Nat.le_of_ble_eq_true rfl, Nat.le_of_ble_eq_true rfl⟩) (jv_pv hK hP hD [0, 1, 2, 3, 4, 5, 6, 7, 8, 9] rfl (by decide) rfl (va_recv hK hP (ci := 6) (q0 := 0) rfl rfl)) rfl rfl hl.1 rfl (lv_room (Nat.le_of_ble_eq_true rfl)) dd_M_addNumber_27 ⟨Nat.le_of_ble_eq_true rfl, Nat.le_of_ble_eq_true rfl⟩) hP hD hS hA [0, 1, 2, 3, 4, 5, 6, 7, 8, 9] [] rfl rfl (by decide) (by decide) (fun H_6 locs_7 hP hD hS => ?_)
    have hP : va_P (dC, dI) vwCl [(h0, .inr (6, [.int bg, .ref h1, .ref h2, .ref h3, .ref h4, .ref h5, .ref h6, .ref h7, .int o_27.1, .ref h8, .int mt, .int en, .int sx, .int pl, .int ov, .int tk, .ref h9])), (h1, .inl (cC, 6, .inl na)), (h2, .inl (cI, 2, .inl cu)), (h3, .inl (cI, 48, .inl pa)), (h4, .inl (cI, 48, .inl re)), (h5, .inl (cZ, 48, .inl cl)), (h6, .inl (cI, 48, .inl si)), (h7, .inl (cC, 288, .inl lt)), (h8, .inl (cC, 3000, .inl o_27.2)), (h9, .inl (cC, 6, .inl rd))] H_6 := hP.sub [0, 1, 2, 3, 4, 5, 6, 7, 8, 9] rfl
    have hD : va_D A [(h0, .inr (6, [.int bg, .ref h1, .ref h2, .ref h3, .ref h4, .ref h5, .ref h6, .ref h7, .int o_27.1, .ref h8, .int mt, .int en, .int sx, .int pl, .int ov, .int tk, .ref h9])), (h1, .inl (cC, 6, .inl na)), (h2, .inl (cI, 2, .inl cu)), (h3, .inl (cI, 48, .inl pa)), (h4, .inl (cI, 48, .inl re)), (h5, .inl (cZ, 48, .inl cl)), (h6, .inl (cI, 48, .inl si)), (h7, .inl (cC, 288, .inl lt)), (h8, .inl (cC, 3000, .inl o_27.2)), (h9, .inl (cC, 6, .inl rd))] := hD.sub [0, 1, 2, 3, 4, 5, 6, 7, 8, 9] (by decide) rfl
    subst hQ
    obtain rfl := Option.some.inj hF
    exact W.vret hx hb hr (fun t ht hW => ⟨⟨(), rfl, trivial, by rw [ht]; exact hP, va_K.moved hW.alike hK, hD⟩, hS.F ht⟩) hS.2.2 dd_M_addNumber_30
  unfold fn_M_addNumber at hF
  refine lv_iload_n hx hb dd_M_addNumber_0 rfl (lv_at hl 1 rfl) ?_
  refine lv_bipush (v := 9) hx hb dd_M_addNumber_1 (by decide) ?_
  refine lv_icmp_le (tgt := 18) hx hb dd_M_addNumber_3 (by decide) (fun c_8 => ?_) (fun c_8 => ?_)
  · have hF := jv_t c_8 hF
    exact bl18 ln pg x1 hF s.heap [] hP hD hS ls (lv_sub hl [0, 1] rfl)
  · have hF := jv_f c_8 hF
    refine lv_aload_n hx hb dd_M_addNumber_6 rfl (lv_at hl 0 rfl) ?_
    refine lv_bipush (v := 48) hx hb dd_M_addNumber_7 (by decide) ?_
    refine lv_iload_n hx hb dd_M_addNumber_9 rfl (lv_at hl 1 rfl) ?_
    refine lv_bipush (v := 10) hx hb dd_M_addNumber_10 (by decide) ?_
    refine lv_idiv hx hb dd_M_addNumber_12 (by decide) ?_
    refine lv_iadd hx hb dd_M_addNumber_13 ?_
    refine lv_i2c hx hb dd_M_addNumber_14 rfl ?_
    obtain ⟨o_15, ho_15, hF⟩ := jv_bi hF
    refine jv_mv (wr := []) (w1 := [(h0, .inr (6, [.int bg, .ref h1, .ref h2, .ref h3, .ref h4, .ref h5, .ref h6, .ref h7, .int o_15.1, .ref h8, .int mt, .int en, .int sx, .int pl, .int ov, .int tk, .ref h9])), (h1, .inl (cC, 6, .inl na)), (h2, .inl (cI, 2, .inl cu)), (h3, .inl (cI, 48, .inl pa)), (h4, .inl (cI, 48, .inl re)), (h5, .inl (cZ, 48, .inl cl)), (h6, .inl (cI, 48, .inl si)), (h7, .inl (cC, 288, .inl lt)), (h8, .inl (cC, 3000, .inl o_15.2)), (h9, .inl (cC, 6, .inl rd))]) (va_runV (C := cn_M) (As := [.int (((48 + (x1 / 10)).toUInt32 % 65536).toInt32)]) (rest := []) ⟨hx, hb, hml, hown, ht⟩ (c_M_add l dC dI cI cL cC cZ h0 h1 h2 h3 h4 h5 h6 h7 h8 h9 s.heap.size bg ln mt en sx pl ov tk na cu pa re cl si lt pg rd (((48 + (x1 / 10)).toUInt32 % 65536).toInt32) _ ho_15) (cwV 1 ht (gi_V tw_3_181 tw_3_183 tw_p_21 tw_1_4 tw_3_184) rfl rfl rfl (by decide +kernel) ⟨Nat.le_of_ble_eq_true rfl, Nat.le_of_ble_eq_true rfl⟩) (jv_pv hK hP hD [0, 1, 2, 3, 4, 5, 6, 7, 8, 9] rfl (by decide) rfl (va_recv hK hP (ci := 6) (q0 := 0) rfl rfl)) rfl rfl hl.1 rfl (lv_room (Nat.le_of_ble_eq_true rfl)) dd_M_addNumber_15 ⟨Nat.le_of_ble_eq_true rfl, Nat.le_of_ble_eq_true rfl⟩) hP hD hS hA [0, 1, 2, 3, 4, 5, 6, 7, 8, 9] [] rfl rfl (by decide) (by decide) (fun H_9 locs_10 hP hD hS => ?_)
    have hP : va_P (dC, dI) vwCl [(h0, .inr (6, [.int bg, .ref h1, .ref h2, .ref h3, .ref h4, .ref h5, .ref h6, .ref h7, .int o_15.1, .ref h8, .int mt, .int en, .int sx, .int pl, .int ov, .int tk, .ref h9])), (h1, .inl (cC, 6, .inl na)), (h2, .inl (cI, 2, .inl cu)), (h3, .inl (cI, 48, .inl pa)), (h4, .inl (cI, 48, .inl re)), (h5, .inl (cZ, 48, .inl cl)), (h6, .inl (cI, 48, .inl si)), (h7, .inl (cC, 288, .inl lt)), (h8, .inl (cC, 3000, .inl o_15.2)), (h9, .inl (cC, 6, .inl rd))] H_9 := hP.sub [0, 1, 2, 3, 4, 5, 6, 7, 8, 9] rfl
    have hD : va_D A [(h0, .inr (6, [.int bg, .ref h1, .ref h2, .ref h3, .ref h4, .ref h5, .ref h6, .ref h7, .int o_15.1, .ref h8, .int mt, .int en, .int sx, .int pl, .int ov, .int tk, .ref h9])), (h1, .inl (cC, 6, .inl na)), (h2, .inl (cI, 2, .inl cu)), (h3, .inl (cI, 48, .inl pa)), (h4, .inl (cI, 48, .inl re)), (h5, .inl (cZ, 48, .inl cl)), (h6, .inl (cI, 48, .inl si)), (h7, .inl (cC, 288, .inl lt)), (h8, .inl (cC, 3000, .inl o_15.2)), (h9, .inl (cC, 6, .inl rd))] := hD.sub [0, 1, 2, 3, 4, 5, 6, 7, 8, 9] (by decide) rfl
    exact bl18 o_15.1 o_15.2 x1 hF H_9 locs_10 hP hD hS ls (lv_sub hl [0, 1] rfl)
set_option maxHeartbeats 40000000 in
set_option maxRecDepth 100000 in
theorem c_M_addName (l : Launch) (dC : Nat → ClassId) (dI : Nat → Nat → Nat) (cI cL cC cZ : ClassId) (h0 h1 h2 h3 h4 h5 h6 h7 h8 h9 : Nat) (sz : Nat) (bg : Int32) (ln : Int32) (mt : Int32) (en : Int32) (sx : Int32) (pl : Int32) (ov : Int32) (tk : Int32) (na : Nat → Int32) (cu : Nat → Int32) (pa : Nat → Int32) (re : Nat → Int32) (cl : Nat → Int32) (si : Nat → Int32) (lt : Nat → Int32) (pg : Nat → Int32) (rd : Nat → Int32) (x1 : Int32) (out : Int32 × (Nat → Int32)) (hF : fn_M_addName si lt ln pg x1 = some out) : Met l yy_M_addName ws_M_addName { frames := 1, cells := 0, slots := 0, locals := 21 } (mP_ (dC, dI) (tk_ cI cL cC cZ) [(h0, .inr (6, [.int bg, .ref h1, .ref h2, .ref h3, .ref h4, .ref h5, .ref h6, .ref h7, .int ln, .ref h8, .int mt, .int en, .int sx, .int pl, .int ov, .int tk, .ref h9])), (h1, .inl (cC, 6, .inl na)), (h2, .inl (cI, 2, .inl cu)), (h3, .inl (cI, 48, .inl pa)), (h4, .inl (cI, 48, .inl re)), (h5, .inl (cZ, 48, .inl cl)), (h6, .inl (cI, 48, .inl si)), (h7, .inl (cC, 288, .inl lt)), (h8, .inl (cC, 3000, .inl pg)), (h9, .inl (cC, 6, .inl rd))] sz [.ref h0, .int x1]) (va_Qv (fun _ : Unit => True) (mB_ (dC, dI) (tk_ cI cL cC cZ) [(h0, .inr (6, [.int bg, .ref h1, .ref h2, .ref h3, .ref h4, .ref h5, .ref h6, .ref h7, .int out.1, .ref h8, .int mt, .int en, .int sx, .int pl, .int ov, .int tk, .ref h9])), (h1, .inl (cC, 6, .inl na)), (h2, .inl (cI, 2, .inl cu)), (h3, .inl (cI, 48, .inl pa)), (h4, .inl (cI, 48, .inl re)), (h5, .inl (cZ, 48, .inl cl)), (h6, .inl (cI, 48, .inl si)), (h7, .inl (cC, 288, .inl lt)), (h8, .inl (cC, 3000, .inl out.2)), (h9, .inl (cC, 6, .inl rd))] (va_A [(h0, .inr (6, [.int bg, .ref h1, .ref h2, .ref h3, .ref h4, .ref h5, .ref h6, .ref h7, .int ln, .ref h8, .int mt, .int en, .int sx, .int pl, .int ov, .int tk, .ref h9])), (h1, .inl (cC, 6, .inl na)), (h2, .inl (cI, 2, .inl cu)), (h3, .inl (cI, 48, .inl pa)), (h4, .inl (cI, 48, .inl re)), (h5, .inl (cZ, 48, .inl cl)), (h6, .inl (cI, 48, .inl si)), (h7, .inl (cC, 288, .inl lt)), (h8, .inl (cC, 3000, .inl pg)), (h9, .inl (cC, 6, .inl rd))] sz)) (va_A [(h0, .inr (6, [.int bg, .ref h1, .ref h2, .ref h3, .ref h4, .ref h5, .ref h6, .ref h7, .int ln, .ref h8, .int mt, .int en, .int sx, .int pl, .int ov, .int tk, .ref h9])), (h1, .inl (cC, 6, .inl na)), (h2, .inl (cI, 2, .inl cu)), (h3, .inl (cI, 48, .inl pa)), (h4, .inl (cI, 48, .inl re)), (h5, .inl (cZ, 48, .inl cl)), (h6, .inl (cI, 48, .inl si)), (h7, .inl (cC, 288, .inl lt)), (h8, .inl (cC, 3000, .inl pg)), (h9, .inl (cC, 6, .inl rd))] sz)) 0 0 (va_A [(h0, .inr (6, [.int bg, .ref h1, .ref h2, .ref h3, .ref h4, .ref h5, .ref h6, .ref h7, .int ln, .ref h8, .int mt, .int en, .int sx, .int pl, .int ov, .int tk, .ref h9])), (h1, .inl (cC, 6, .inl na)), (h2, .inl (cI, 2, .inl cu)), (h3, .inl (cI, 48, .inl pa)), (h4, .inl (cI, 48, .inl re)), (h5, .inl (cZ, 48, .inl cl)), (h6, .inl (cI, 48, .inl si)), (h7, .inl (cC, 288, .inl lt)), (h8, .inl (cC, 3000, .inl pg)), (h9, .inl (cC, 6, .inl rd))] sz) := by
  refine Met.ofW (cc := cc_M_addName) (maxL := 4) (ret := none) (by decide) rfl ?_
  intro p e s m args below meth c s₁ B hml hv
  obtain ⟨hargs, hsz, hP, hK, hD0⟩ := hv
  have hx := B.exec
  have hb := B.bytes
  have hr := B.returns
  have hts := atoms_spec (ws := ws_M_addName) B.pre
  have ht : ∀ w ∈ TB_, w.before args s = true := fun w h => hts w (List.mem_cons_of_mem _ h)
  have hown : s.vm.findClass cn_M = some m.cls := findClass_of_methodNamed B.named
  have hlocks := B.notSynchronized
  subst hsz
  have hD := hD0.self (sz := s.heap.size)
  generalize hAe : va_A [(h0, .inr (6, [.int bg, .ref h1, .ref h2, .ref h3, .ref h4, .ref h5, .ref h6, .ref h7, .int ln, .ref h8, .int mt, .int en, .int sx, .int pl, .int ov, .int tk, .ref h9])), (h1, .inl (cC, 6, .inl na)), (h2, .inl (cI, 2, .inl cu)), (h3, .inl (cI, 48, .inl pa)), (h4, .inl (cI, 48, .inl re)), (h5, .inl (cZ, 48, .inl cl)), (h6, .inl (cI, 48, .inl si)), (h7, .inl (cC, 288, .inl lt)), (h8, .inl (cC, 3000, .inl pg)), (h9, .inl (cC, 6, .inl rd))] s.heap.size = A at hD ⊢
  have hA : ∀ q : Nat, s.heap.size ≤ q → A q := fun q h => by rw [← hAe]; exact Or.inr h
  have hS : va_S A s.heap s.heap [] := va_S.rf
  have hP : va_P (dC, dI) vwCl [(h0, .inr (6, [.int bg, .ref h1, .ref h2, .ref h3, .ref h4, .ref h5, .ref h6, .ref h7, .int ln, .ref h8, .int mt, .int en, .int sx, .int pl, .int ov, .int tk, .ref h9])), (h1, .inl (cC, 6, .inl na)), (h2, .inl (cI, 2, .inl cu)), (h3, .inl (cI, 48, .inl pa)), (h4, .inl (cI, 48, .inl re)), (h5, .inl (cZ, 48, .inl cl)), (h6, .inl (cI, 48, .inl si)), (h7, .inl (cC, 288, .inl lt)), (h8, .inl (cC, 3000, .inl pg)), (h9, .inl (cC, 6, .inl rd))] s.heap := hP
  have hl := lv_entry [.ref h0, .int x1] (n := 4) (Nat.le_of_ble_eq_true rfl)
  have he : entryFrame m args 4 = _ := (congrArg (fun a => entryFrame m a 4) hargs).trans (lg_entry_eq m [.ref h0, .int x1] 4)
  rw [he]
  generalize (lg_sl [.ref h0, .int x1] ++ List.replicate (4 - (lg_sl [.ref h0, .int x1]).length) Slot.unset).toArray = ls at hl ⊢
  have hl : lv_has ls 4 [(0, .ref h0), (1, .int x1)] := hl
  generalize hQ : MQ below _ args s _ _ _ = Q
  have lp2 : ∀ (n2 : Nat), ∀ (ln : Int32) (pg : Nat → Int32) (x1 : Int32) (x2 : Int32), fl_M_addName_2 si lt  n2 (ln, pg, x1, x2) = some out → ∀ (H : Heap) (locs : List Loc), va_P (dC, dI) vwCl [(h0, .inr (6, [.int bg, .ref h1, .ref h2, .ref h3, .ref h4, .ref h5, .ref h6, .ref h7, .int ln, .ref h8, .int mt, .int en, .int sx, .int pl, .int ov, .int tk, .ref h9])), (h1, .inl (cC, 6, .inl na)), (h2, .inl (cI, 2, .inl cu)), (h3, .inl (cI, 48, .inl pa)), (h4, .inl (cI, 48, .inl re)), (h5, .inl (cZ, 48, .inl cl)), (h6, .inl (cI, 48, .inl si)), (h7, .inl (cC, 288, .inl lt)), (h8, .inl (cC, 3000, .inl pg)), (h9, .inl (cC, 6, .inl rd))] H → va_D A [(h0, .inr (6, [.int bg, .ref h1, .ref h2, .ref h3, .ref h4, .ref h5, .ref h6, .ref h7, .int ln, .ref h8, .int mt, .int en, .int sx, .int pl, .int ov, .int tk, .ref h9])), (h1, .inl (cC, 6, .inl na)), (h2, .inl (cI, 2, .inl cu)), (h3, .inl (cI, 48, .inl pa)), (h4, .inl (cI, 48, .inl re)), (h5, .inl (cZ, 48, .inl cl)), (h6, .inl (cI, 48, .inl si)), (h7, .inl (cC, 288, .inl lt)), (h8, .inl (cC, 3000, .inl pg)), (h9, .inl (cC, 6, .inl rd))] → va_S A s.heap H locs → ∀ ls : Array Slot, lv_has ls 4 [(0, .ref h0), (1, .int x1), (2, .int x2)] → W p l e (headSpec ws_M_addName { frames := 1, cells := 0, slots := 0, locals := 21 }).room s m args below meth c H locs 0 0 Q (F0 m 2 ls []) := by
    intro n2
    induction n2 with
    | zero =>
      intro ln pg x1 x2 hF
      exact (jv_no hF).elim
    | succ n2 ih2 =>
      have bl36 : ∀ (ln : Int32) (pg : Nat → Int32) (x1 : Int32) (x2 : Int32) (x3 : Int32), fb_M_addName_36 si lt (fl_M_addName_2 si lt  n2) ln pg x1 x2 x3 = some out → ∀ (H : Heap) (locs : List Loc), va_P (dC, dI) vwCl [(h0, .inr (6, [.int bg, .ref h1, .ref h2, .ref h3, .ref h4, .ref h5, .ref h6, .ref h7, .int ln, .ref h8, .int mt, .int en, .int sx, .int pl, .int ov, .int tk, .ref h9])), (h1, .inl (cC, 6, .inl na)), (h2, .inl (cI, 2, .inl cu)), (h3, .inl (cI, 48, .inl pa)), (h4, .inl (cI, 48, .inl re)), (h5, .inl (cZ, 48, .inl cl)), (h6, .inl (cI, 48, .inl si)), (h7, .inl (cC, 288, .inl lt)), (h8, .inl (cC, 3000, .inl pg)), (h9, .inl (cC, 6, .inl rd))] H → va_D A [(h0, .inr (6, [.int bg, .ref h1, .ref h2, .ref h3, .ref h4, .ref h5, .ref h6, .ref h7, .int ln, .ref h8, .int mt, .int en, .int sx, .int pl, .int ov, .int tk, .ref h9])), (h1, .inl (cC, 6, .inl na)), (h2, .inl (cI, 2, .inl cu)), (h3, .inl (cI, 48, .inl pa)), (h4, .inl (cI, 48, .inl re)), (h5, .inl (cZ, 48, .inl cl)), (h6, .inl (cI, 48, .inl si)), (h7, .inl (cC, 288, .inl lt)), (h8, .inl (cC, 3000, .inl pg)), (h9, .inl (cC, 6, .inl rd))] → va_S A s.heap H locs → ∀ ls : Array Slot, lv_has ls 4 [(0, .ref h0), (1, .int x1), (2, .int x2), (3, .int x3)] → W p l e (headSpec ws_M_addName { frames := 1, cells := 0, slots := 0, locals := 21 }).room s m args below meth c H locs 0 0 Q (F0 m 36 ls []) := by
        intro ln pg x1 x2 x3 hF H locs hP hD hS ls hl
        unfold fb_M_addName_36 at hF
        refine lv_aload_n hx hb dd_M_addName_36 rfl (lv_at hl 0 rfl) ?_
        refine lv_bipush (v := 92) hx hb dd_M_addName_37 (by decide) ?_
        obtain ⟨o_39, ho_39, hF⟩ := jv_bi hF
        refine jv_mv (wr := []) (w1 := [(h0, .inr (6, [.int bg, .ref h1, .ref h2, .ref h3, .ref h4, .ref h5, .ref h6, .ref h7, .int o_39.1, .ref h8, .int mt, .int en, .int sx, .int pl, .int ov, .int tk, .ref h9])), (h1, .inl (cC, 6, .inl na)), (h2, .inl (cI, 2, .inl cu)), (h3, .inl (cI, 48, .inl pa)), (h4, .inl (cI, 48, .inl re)), (h5, .inl (cZ, 48, .inl cl)), (h6, .inl (cI, 48, .inl si)), (h7, .inl (cC, 288, .inl lt)), (h8, .inl (cC, 3000, .inl o_39.2)), (h9, .inl (cC, 6, .inl rd))]) (va_runV (C := cn_M) (As := [.int 92]) (rest := []) ⟨hx, hb, hml, hown, ht⟩ (c_M_add l dC dI cI cL cC cZ h0 h1 h2 h3 h4 h5 h6 h7 h8 h9 H.size bg ln mt en sx pl ov tk na cu pa re cl si lt pg rd 92 _ ho_39) (cwV 1 ht (gi_V tw_3_181 tw_3_183 tw_p_21 tw_1_4 tw_3_184) rfl rfl rfl (by decide +kernel) ⟨Nat.le_of_ble_eq_true rfl, Nat.le_of_ble_eq_true rfl⟩) (jv_pv hK hP hD [0, 1, 2, 3, 4, 5, 6, 7, 8, 9] rfl (by decide) rfl (va_recv hK hP (ci := 6) (q0 := 0) rfl rfl)) rfl rfl hl.1 rfl (lv_room (Nat.le_of_ble_eq_true rfl)) dd_M_addName_39 ⟨Nat.le_of_ble_eq_true rfl, Nat.le_of_ble_eq_true rfl⟩) hP hD hS hA [0, 1, 2, 3, 4, 5, 6, 7, 8, 9] [] rfl rfl (by decide) (by decide) (fun H_12 locs_13 hP hD hS => ?_)
        have hP : va_P (dC, dI) vwCl [(h0, .inr (6, [.int bg, .ref h1, .ref h2, .ref h3, .ref h4, .ref h5, .ref h6, .ref h7, .int o_39.1, .ref h8, .int mt, .int en, .int sx, .int pl, .int ov, .int tk, .ref h9])), (h1, .inl (cC, 6, .inl na)), (h2, .inl (cI, 2, .inl cu)), (h3, .inl (cI, 48, .inl pa)), (h4, .inl (cI, 48, .inl re)), (h5, .inl (cZ, 48, .inl cl)), (h6, .inl (cI, 48, .inl si)), (h7, .inl (cC, 288, .inl lt)), (h8, .inl (cC, 3000, .inl o_39.2)), (h9, .inl (cC, 6, .inl rd))] H_12 := hP.sub [0, 1, 2, 3, 4, 5, 6, 7, 8, 9] rfl
        have hD : va_D A [(h0, .inr (6, [.int bg, .ref h1, .ref h2, .ref h3, .ref h4, .ref h5, .ref h6, .ref h7, .int o_39.1, .ref h8, .int mt, .int en, .int sx, .int pl, .int ov, .int tk, .ref h9])), (h1, .inl (cC, 6, .inl na)), (h2, .inl (cI, 2, .inl cu)), (h3, .inl (cI, 48, .inl pa)), (h4, .inl (cI, 48, .inl re)), (h5, .inl (cZ, 48, .inl cl)), (h6, .inl (cI, 48, .inl si)), (h7, .inl (cC, 288, .inl lt)), (h8, .inl (cC, 3000, .inl o_39.2)), (h9, .inl (cC, 6, .inl rd))] := hD.sub [0, 1, 2, 3, 4, 5, 6, 7, 8, 9] (by decide) rfl
        refine lv_aload_n hx hb dd_M_addName_42 rfl (lv_at hl 0 rfl) ?_
        refine lv_iload_n hx hb dd_M_addName_43 rfl (lv_at hl 3 rfl) ?_
        obtain ⟨o_44, ho_44, hF⟩ := jv_bi hF
        refine jv_mv (wr := []) (w1 := [(h0, .inr (6, [.int bg, .ref h1, .ref h2, .ref h3, .ref h4, .ref h5, .ref h6, .ref h7, .int o_44.1, .ref h8, .int mt, .int en, .int sx, .int pl, .int ov, .int tk, .ref h9])), (h1, .inl (cC, 6, .inl na)), (h2, .inl (cI, 2, .inl cu)), (h3, .inl (cI, 48, .inl pa)), (h4, .inl (cI, 48, .inl re)), (h5, .inl (cZ, 48, .inl cl)), (h6, .inl (cI, 48, .inl si)), (h7, .inl (cC, 288, .inl lt)), (h8, .inl (cC, 3000, .inl o_44.2)), (h9, .inl (cC, 6, .inl rd))]) (va_runV (C := cn_M) (As := [.int x3]) (rest := []) ⟨hx, hb, hml, hown, ht⟩ (c_M_add l dC dI cI cL cC cZ h0 h1 h2 h3 h4 h5 h6 h7 h8 h9 H_12.size bg o_39.1 mt en sx pl ov tk na cu pa re cl si lt o_39.2 rd x3 _ ho_44) (cwV 1 ht (gi_V tw_3_181 tw_3_183 tw_p_21 tw_1_4 tw_3_184) rfl rfl rfl (by decide +kernel) ⟨Nat.le_of_ble_eq_true rfl, Nat.le_of_ble_eq_true rfl⟩) (jv_pv hK hP hD [0, 1, 2, 3, 4, 5, 6, 7, 8, 9] rfl (by decide) rfl (va_recv hK hP (ci := 6) (q0 := 0) rfl rfl)) rfl rfl hl.1 rfl (lv_room (Nat.le_of_ble_eq_true rfl)) dd_M_addName_44 ⟨Nat.le_of_ble_eq_true rfl, Nat.le_of_ble_eq_true rfl⟩) hP hD hS hA [0, 1, 2, 3, 4, 5, 6, 7, 8, 9] [] rfl rfl (by decide) (by decide) (fun H_14 locs_15 hP hD hS => ?_)
        have hP : va_P (dC, dI) vwCl [(h0, .inr (6, [.int bg, .ref h1, .ref h2, .ref h3, .ref h4, .ref h5, .ref h6, .ref h7, .int o_44.1, .ref h8, .int mt, .int en, .int sx, .int pl, .int ov, .int tk, .ref h9])), (h1, .inl (cC, 6, .inl na)), (h2, .inl (cI, 2, .inl cu)), (h3, .inl (cI, 48, .inl pa)), (h4, .inl (cI, 48, .inl re)), (h5, .inl (cZ, 48, .inl cl)), (h6, .inl (cI, 48, .inl si)), (h7, .inl (cC, 288, .inl lt)), (h8, .inl (cC, 3000, .inl o_44.2)), (h9, .inl (cC, 6, .inl rd))] H_14 := hP.sub [0, 1, 2, 3, 4, 5, 6, 7, 8, 9] rfl
        have hD : va_D A [(h0, .inr (6, [.int bg, .ref h1, .ref h2, .ref h3, .ref h4, .ref h5, .ref h6, .ref h7, .int o_44.1, .ref h8, .int mt, .int en, .int sx, .int pl, .int ov, .int tk, .ref h9])), (h1, .inl (cC, 6, .inl na)), (h2, .inl (cI, 2, .inl cu)), (h3, .inl (cI, 48, .inl pa)), (h4, .inl (cI, 48, .inl re)), (h5, .inl (cZ, 48, .inl cl)), (h6, .inl (cI, 48, .inl si)), (h7, .inl (cC, 288, .inl lt)), (h8, .inl (cC, 3000, .inl o_44.2)), (h9, .inl (cC, 6, .inl rd))] := hD.sub [0, 1, 2, 3, 4, 5, 6, 7, 8, 9] (by decide) rfl
        refine lv_iinc (v := x2 + 1) (lv' := [(2, .int (x2 + 1)), (0, .ref h0), (1, .int x1), (3, .int x3)]) hx hb dd_M_addName_47 hl (k := 2) rfl rfl (by decide) rfl (fun ls hl => ?_)
        refine lv_goto (tgt := 2) hx hb dd_M_addName_50 (by decide) ?_
        exact ih2 o_44.1 o_44.2 x1 (x2 + 1) hF H_14 locs_15 hP hD hS ls (lv_sub hl [1, 2, 0] rfl)
      intro ln pg x1 x2 hF H locs hP hD hS ls hl
      have hF : fb_M_addName_2 si lt  (fl_M_addName_2 si lt  n2) ln pg x1 x2 = some out := hF
      unfold fb_M_addName_2 at hF
      refine lv_iload_n hx hb dd_M_addName_2 rfl (lv_at hl 2 rfl) ?_
      refine lv_aload_n hx hb dd_M_addName_3 rfl (lv_at hl 0 rfl) ?_
      refine va_get (D := (dC, dI)) (ci := 6) (v := .ref h6) (C := cn_M) (T := tt_M) (N := 17) hx hb ht in_M hown hK hP 0 rfl rfl 6 (by decide) (ht _ tw_3_47) (fun _ h9 => h9) rfl dd_M_addName_4 ?_
      refine lv_iload_n hx hb dd_M_addName_7 rfl (lv_at hl 1 rfl) ?_
      obtain ⟨g_16, hF⟩ := jv_gi hF
      refine va_iald hx hb hK hP 6 0 rfl rfl (jv_in g_16) dd_M_addName_8 ?_
      refine lv_icmp_ge (tgt := 53) hx hb dd_M_addName_9 (by decide) (fun c_17 => ?_) (fun c_17 => ?_)
      · have hF := jv_t c_17 hF
        subst hQ
        obtain rfl := Option.some.inj hF
        exact W.vret hx hb hr (fun t ht hW => ⟨⟨(), rfl, trivial, by rw [ht]; exact hP, va_K.moved hW.alike hK, hD⟩, hS.F ht⟩) hS.2.2 dd_M_addName_53
      · have hF := jv_f c_17 hF
        refine lv_aload_n hx hb dd_M_addName_12 rfl (lv_at hl 0 rfl) ?_
        refine va_get (D := (dC, dI)) (ci := 6) (v := .ref h7) (C := cn_M) (T := tt_M) (N := 17) hx hb ht in_M hown hK hP 0 rfl rfl 7 (by decide) (ht _ tw_3_48) (fun _ h9 => h9) rfl dd_M_addName_13 ?_
        refine lv_bipush (v := 6) hx hb dd_M_addName_16 (by decide) ?_
        refine lv_iload_n hx hb dd_M_addName_18 rfl (lv_at hl 1 rfl) ?_
        refine lv_imul hx hb dd_M_addName_19 ?_
        refine lv_iload_n hx hb dd_M_addName_20 rfl (lv_at hl 2 rfl) ?_
        refine lv_iadd hx hb dd_M_addName_21 ?_
        obtain ⟨g_18, hF⟩ := jv_gi hF
        refine va_cald hx hb hK hP 7 2 rfl rfl (jv_in g_18) dd_M_addName_22 ?_
        refine lv_istore_n (lv' := [(3, .int (lt ((6 * x1) + x2).toNatClampNeg)), (0, .ref h0), (1, .int x1), (2, .int x2)]) hx hb dd_M_addName_23 rfl hl (by decide) rfl (fun ls hl => ?_)
        refine lv_iload_n hx hb dd_M_addName_24 rfl (lv_at hl 0 rfl) ?_
        refine lv_bipush (v := 92) hx hb dd_M_addName_25 (by decide) ?_
        refine lv_icmp_eq (tgt := 36) hx hb dd_M_addName_27 (by decide) (fun c_19 => ?_) (fun c_19 => ?_)
        · have hF := jv_t c_19 hF
          exact bl36 ln pg x1 x2 (lt ((6 * x1) + x2).toNatClampNeg) hF H locs hP hD hS ls (lv_sub hl [1, 2, 3, 0] rfl)
        · have hF := jv_f c_19 hF
          refine lv_iload_n hx hb dd_M_addName_30 rfl (lv_at hl 0 rfl) ?_
          refine lv_bipush (v := 35) hx hb dd_M_addName_31 (by decide) ?_
          refine lv_icmp_ne (tgt := 42) hx hb dd_M_addName_33 (by decide) (fun c_20 => ?_) (fun c_20 => ?_)
          · have hF := jv_f c_20 hF
            refine lv_aload_n hx hb dd_M_addName_42 rfl (lv_at hl 1 rfl) ?_
            refine lv_iload_n hx hb dd_M_addName_43 rfl (lv_at hl 0 rfl) ?_
            obtain ⟨o_44, ho_44, hF⟩ := jv_bi hF
            refine jv_mv (wr := []) (w1 := [(h0, .inr (6, [.int bg, .ref h1, .ref h2, .ref h3, .ref h4, .ref h5, .ref h6, .ref h7, .int o_44.1, .ref h8, .int mt, .int en, .int sx, .int pl, .int ov, .int tk, .ref h9])), (h1, .inl (cC, 6, .inl na)), (h2, .inl (cI, 2, .inl cu)), (h3, .inl (cI, 48, .inl pa)), (h4, .inl (cI, 48, .inl re)), (h5, .inl (cZ, 48, .inl cl)), (h6, .inl (cI, 48, .inl si)), (h7, .inl (cC, 288, .inl lt)), (h8, .inl (cC, 3000, .inl o_44.2)), (h9, .inl (cC, 6, .inl rd))]) (va_runV (C := cn_M) (As := [.int (lt ((6 * x1) + x2).toNatClampNeg)]) (rest := []) ⟨hx, hb, hml, hown, ht⟩ (c_M_add l dC dI cI cL cC cZ h0 h1 h2 h3 h4 h5 h6 h7 h8 h9 H.size bg ln mt en sx pl ov tk na cu pa re cl si lt pg rd (lt ((6 * x1) + x2).toNatClampNeg) _ ho_44) (cwV 1 ht (gi_V tw_3_181 tw_3_183 tw_p_21 tw_1_4 tw_3_184) rfl rfl rfl (by decide +kernel) ⟨Nat.le_of_ble_eq_true rfl, Nat.le_of_ble_eq_true rfl⟩) (jv_pv hK hP hD [0, 1, 2, 3, 4, 5, 6, 7, 8, 9] rfl (by decide) rfl (va_recv hK hP (ci := 6) (q0 := 0) rfl rfl)) rfl rfl hl.1 rfl (lv_room (Nat.le_of_ble_eq_true rfl)) dd_M_addName_44 ⟨Nat.le_of_ble_eq_true rfl, Nat.le_of_ble_eq_true rfl⟩) hP hD hS hA [0, 1, 2, 3, 4, 5, 6, 7, 8, 9] [] rfl rfl (by decide) (by decide) (fun H_21 locs_22 hP hD hS => ?_)
            have hP : va_P (dC, dI) vwCl [(h0, .inr (6, [.int bg, .ref h1, .ref h2, .ref h3, .ref h4, .ref h5, .ref h6, .ref h7, .int o_44.1, .ref h8, .int mt, .int en, .int sx, .int pl, .int ov, .int tk, .ref h9])), (h1, .inl (cC, 6, .inl na)), (h2, .inl (cI, 2, .inl cu)), (h3, .inl (cI, 48, .inl pa)), (h4, .inl (cI, 48, .inl re)), (h5, .inl (cZ, 48, .inl cl)), (h6, .inl (cI, 48, .inl si)), (h7, .inl (cC, 288, .inl lt)), (h8, .inl (cC, 3000, .inl o_44.2)), (h9, .inl (cC, 6, .inl rd))] H_21 := hP.sub [0, 1, 2, 3, 4, 5, 6, 7, 8, 9] rfl
            have hD : va_D A [(h0, .inr (6, [.int bg, .ref h1, .ref h2, .ref h3, .ref h4, .ref h5, .ref h6, .ref h7, .int o_44.1, .ref h8, .int mt, .int en, .int sx, .int pl, .int ov, .int tk, .ref h9])), (h1, .inl (cC, 6, .inl na)), (h2, .inl (cI, 2, .inl cu)), (h3, .inl (cI, 48, .inl pa)), (h4, .inl (cI, 48, .inl re)), (h5, .inl (cZ, 48, .inl cl)), (h6, .inl (cI, 48, .inl si)), (h7, .inl (cC, 288, .inl lt)), (h8, .inl (cC, 3000, .inl o_44.2)), (h9, .inl (cC, 6, .inl rd))] := hD.sub [0, 1, 2, 3, 4, 5, 6, 7, 8, 9] (by decide) rfl
            refine lv_iinc (v := x2 + 1) (lv' := [(2, .int (x2 + 1)), (3, .int (lt ((6 * x1) + x2).toNatClampNeg)), (0, .ref h0), (1, .int x1)]) hx hb dd_M_addName_47 hl (k := 3) rfl rfl (by decide) rfl (fun ls hl => ?_)
            refine lv_goto (tgt := 2) hx hb dd_M_addName_50 (by decide) ?_
            exact ih2 o_44.1 o_44.2 x1 (x2 + 1) hF H_21 locs_22 hP hD hS ls (lv_sub hl [2, 3, 0] rfl)
          · have hF := jv_t c_20 hF
            exact bl36 ln pg x1 x2 (lt ((6 * x1) + x2).toNatClampNeg) hF H locs hP hD hS ls (lv_sub hl [1, 2, 3, 0] rfl)
  unfold fn_M_addName at hF
  refine lv_iconst (v := 0) hx hb dd_M_addName_0 (by decide) ?_
  refine lv_istore_n (lv' := [(2, .int 0), (0, .ref h0), (1, .int x1)]) hx hb dd_M_addName_1 rfl hl (by decide) rfl (fun ls hl => ?_)
  exact lp2 4000 ln pg x1 0 hF s.heap [] hP hD hS ls (lv_sub hl [1, 2, 0] rfl)
set_option maxHeartbeats 40000000 in
set_option maxRecDepth 100000 in
theorem c_M_addVerdict (l : Launch) (dC : Nat → ClassId) (dI : Nat → Nat → Nat) (cI cL cC cZ : ClassId) (h0 h1 h2 h3 h4 h5 h6 h7 h8 h9 : Nat) (sz : Nat) (bg : Int32) (ln : Int32) (mt : Int32) (en : Int32) (sx : Int32) (pl : Int32) (ov : Int32) (tk : Int32) (na : Nat → Int32) (cu : Nat → Int32) (pa : Nat → Int32) (re : Nat → Int32) (cl : Nat → Int32) (si : Nat → Int32) (lt : Nat → Int32) (pg : Nat → Int32) (rd : Nat → Int32) (x1 : Int32) (x2 : Int32) (out : Int32 × (Nat → Int32)) (hF : fn_M_addVerdict pa si lt ln pg x1 x2 = some out) : Met l yy_M_addVerdict ws_M_addVerdict { frames := 3, cells := 0, slots := 0, locals := 66 } (mP_ (dC, dI) (tk_ cI cL cC cZ) [(h0, .inr (6, [.int bg, .ref h1, .ref h2, .ref h3, .ref h4, .ref h5, .ref h6, .ref h7, .int ln, .ref h8, .int mt, .int en, .int sx, .int pl, .int ov, .int tk, .ref h9])), (h1, .inl (cC, 6, .inl na)), (h2, .inl (cI, 2, .inl cu)), (h3, .inl (cI, 48, .inl pa)), (h4, .inl (cI, 48, .inl re)), (h5, .inl (cZ, 48, .inl cl)), (h6, .inl (cI, 48, .inl si)), (h7, .inl (cC, 288, .inl lt)), (h8, .inl (cC, 3000, .inl pg)), (h9, .inl (cC, 6, .inl rd))] sz [.ref h0, .int x1, .int x2]) (va_Qv (fun _ : Unit => True) (mB_ (dC, dI) (tk_ cI cL cC cZ) [(h0, .inr (6, [.int bg, .ref h1, .ref h2, .ref h3, .ref h4, .ref h5, .ref h6, .ref h7, .int out.1, .ref h8, .int mt, .int en, .int sx, .int pl, .int ov, .int tk, .ref h9])), (h1, .inl (cC, 6, .inl na)), (h2, .inl (cI, 2, .inl cu)), (h3, .inl (cI, 48, .inl pa)), (h4, .inl (cI, 48, .inl re)), (h5, .inl (cZ, 48, .inl cl)), (h6, .inl (cI, 48, .inl si)), (h7, .inl (cC, 288, .inl lt)), (h8, .inl (cC, 3000, .inl out.2)), (h9, .inl (cC, 6, .inl rd))] (va_A [(h0, .inr (6, [.int bg, .ref h1, .ref h2, .ref h3, .ref h4, .ref h5, .ref h6, .ref h7, .int ln, .ref h8, .int mt, .int en, .int sx, .int pl, .int ov, .int tk, .ref h9])), (h1, .inl (cC, 6, .inl na)), (h2, .inl (cI, 2, .inl cu)), (h3, .inl (cI, 48, .inl pa)), (h4, .inl (cI, 48, .inl re)), (h5, .inl (cZ, 48, .inl cl)), (h6, .inl (cI, 48, .inl si)), (h7, .inl (cC, 288, .inl lt)), (h8, .inl (cC, 3000, .inl pg)), (h9, .inl (cC, 6, .inl rd))] sz)) (va_A [(h0, .inr (6, [.int bg, .ref h1, .ref h2, .ref h3, .ref h4, .ref h5, .ref h6, .ref h7, .int ln, .ref h8, .int mt, .int en, .int sx, .int pl, .int ov, .int tk, .ref h9])), (h1, .inl (cC, 6, .inl na)), (h2, .inl (cI, 2, .inl cu)), (h3, .inl (cI, 48, .inl pa)), (h4, .inl (cI, 48, .inl re)), (h5, .inl (cZ, 48, .inl cl)), (h6, .inl (cI, 48, .inl si)), (h7, .inl (cC, 288, .inl lt)), (h8, .inl (cC, 3000, .inl pg)), (h9, .inl (cC, 6, .inl rd))] sz)) 0 0 (va_A [(h0, .inr (6, [.int bg, .ref h1, .ref h2, .ref h3, .ref h4, .ref h5, .ref h6, .ref h7, .int ln, .ref h8, .int mt, .int en, .int sx, .int pl, .int ov, .int tk, .ref h9])), (h1, .inl (cC, 6, .inl na)), (h2, .inl (cI, 2, .inl cu)), (h3, .inl (cI, 48, .inl pa)), (h4, .inl (cI, 48, .inl re)), (h5, .inl (cZ, 48, .inl cl)), (h6, .inl (cI, 48, .inl si)), (h7, .inl (cC, 288, .inl lt)), (h8, .inl (cC, 3000, .inl pg)), (h9, .inl (cC, 6, .inl rd))] sz) := by
  refine Met.ofW (cc := cc_M_addVerdict) (maxL := 3) (ret := none) (by decide) rfl ?_
  intro p e s m args below meth c s₁ B hml hv
  obtain ⟨hargs, hsz, hP, hK, hD0⟩ := hv
  have hx := B.exec
  have hb := B.bytes
  have hr := B.returns
  have hts := atoms_spec (ws := ws_M_addVerdict) B.pre
  have ht : ∀ w ∈ TB_, w.before args s = true := fun w h => hts w (List.mem_cons_of_mem _ h)
  have hown : s.vm.findClass cn_M = some m.cls := findClass_of_methodNamed B.named
  have hlocks := B.notSynchronized
  subst hsz
  have hD := hD0.self (sz := s.heap.size)
  generalize hAe : va_A [(h0, .inr (6, [.int bg, .ref h1, .ref h2, .ref h3, .ref h4, .ref h5, .ref h6, .ref h7, .int ln, .ref h8, .int mt, .int en, .int sx, .int pl, .int ov, .int tk, .ref h9])), (h1, .inl (cC, 6, .inl na)), (h2, .inl (cI, 2, .inl cu)), (h3, .inl (cI, 48, .inl pa)), (h4, .inl (cI, 48, .inl re)), (h5, .inl (cZ, 48, .inl cl)), (h6, .inl (cI, 48, .inl si)), (h7, .inl (cC, 288, .inl lt)), (h8, .inl (cC, 3000, .inl pg)), (h9, .inl (cC, 6, .inl rd))] s.heap.size = A at hD ⊢
  have hA : ∀ q : Nat, s.heap.size ≤ q → A q := fun q h => by rw [← hAe]; exact Or.inr h
  have hS : va_S A s.heap s.heap [] := va_S.rf
  have hP : va_P (dC, dI) vwCl [(h0, .inr (6, [.int bg, .ref h1, .ref h2, .ref h3, .ref h4, .ref h5, .ref h6, .ref h7, .int ln, .ref h8, .int mt, .int en, .int sx, .int pl, .int ov, .int tk, .ref h9])), (h1, .inl (cC, 6, .inl na)), (h2, .inl (cI, 2, .inl cu)), (h3, .inl (cI, 48, .inl pa)), (h4, .inl (cI, 48, .inl re)), (h5, .inl (cZ, 48, .inl cl)), (h6, .inl (cI, 48, .inl si)), (h7, .inl (cC, 288, .inl lt)), (h8, .inl (cC, 3000, .inl pg)), (h9, .inl (cC, 6, .inl rd))] s.heap := hP
  have hl := lv_entry [.ref h0, .int x1, .int x2] (n := 3) (Nat.le_of_ble_eq_true rfl)
  have he : entryFrame m args 3 = _ := (congrArg (fun a => entryFrame m a 3) hargs).trans (lg_entry_eq m [.ref h0, .int x1, .int x2] 3)
  rw [he]
  generalize (lg_sl [.ref h0, .int x1, .int x2] ++ List.replicate (3 - (lg_sl [.ref h0, .int x1, .int x2]).length) Slot.unset).toArray = ls at hl ⊢
  have hl : lv_has ls 3 [(0, .ref h0), (1, .int x1), (2, .int x2)] := hl
  generalize hQ : MQ below _ args s _ _ _ = Q
  have bl20 : ∀ (ln : Int32) (pg : Nat → Int32) (x1 : Int32) (y1 : Int32), fb_M_addVerdict_20 pa si lt  ln pg x1 y1 = some out → ∀ (H : Heap) (locs : List Loc), va_P (dC, dI) vwCl [(h0, .inr (6, [.int bg, .ref h1, .ref h2, .ref h3, .ref h4, .ref h5, .ref h6, .ref h7, .int ln, .ref h8, .int mt, .int en, .int sx, .int pl, .int ov, .int tk, .ref h9])), (h1, .inl (cC, 6, .inl na)), (h2, .inl (cI, 2, .inl cu)), (h3, .inl (cI, 48, .inl pa)), (h4, .inl (cI, 48, .inl re)), (h5, .inl (cZ, 48, .inl cl)), (h6, .inl (cI, 48, .inl si)), (h7, .inl (cC, 288, .inl lt)), (h8, .inl (cC, 3000, .inl pg)), (h9, .inl (cC, 6, .inl rd))] H → va_D A [(h0, .inr (6, [.int bg, .ref h1, .ref h2, .ref h3, .ref h4, .ref h5, .ref h6, .ref h7, .int ln, .ref h8, .int mt, .int en, .int sx, .int pl, .int ov, .int tk, .ref h9])), (h1, .inl (cC, 6, .inl na)), (h2, .inl (cI, 2, .inl cu)), (h3, .inl (cI, 48, .inl pa)), (h4, .inl (cI, 48, .inl re)), (h5, .inl (cZ, 48, .inl cl)), (h6, .inl (cI, 48, .inl si)), (h7, .inl (cC, 288, .inl lt)), (h8, .inl (cC, 3000, .inl pg)), (h9, .inl (cC, 6, .inl rd))] → va_S A s.heap H locs → ∀ ls : Array Slot, lv_has ls 3 [(0, .ref h0), (1, .int x1)] → W p l e (headSpec ws_M_addVerdict { frames := 3, cells := 0, slots := 0, locals := 66 }).room s m args below meth c H locs 0 0 Q (F0 m 20 ls [.int y1, .ref h0]) := by
    intro ln pg x1 y1 hF H locs hP hD hS ls hl
    unfold fb_M_addVerdict_20 at hF
    obtain ⟨o_20, ho_20, hF⟩ := jv_bi hF
    refine jv_mv (wr := []) (w1 := [(h0, .inr (6, [.int bg, .ref h1, .ref h2, .ref h3, .ref h4, .ref h5, .ref h6, .ref h7, .int o_20.1, .ref h8, .int mt, .int en, .int sx, .int pl, .int ov, .int tk, .ref h9])), (h1, .inl (cC, 6, .inl na)), (h2, .inl (cI, 2, .inl cu)), (h3, .inl (cI, 48, .inl pa)), (h4, .inl (cI, 48, .inl re)), (h5, .inl (cZ, 48, .inl cl)), (h6, .inl (cI, 48, .inl si)), (h7, .inl (cC, 288, .inl lt)), (h8, .inl (cC, 3000, .inl o_20.2)), (h9, .inl (cC, 6, .inl rd))]) (va_runV (C := cn_M) (As := [.int y1]) (rest := []) ⟨hx, hb, hml, hown, ht⟩ (c_M_addText l dC dI cI cL cC cZ h0 h1 h2 h3 h4 h5 h6 h7 h8 h9 H.size bg ln mt en sx pl ov tk na cu pa re cl si lt pg rd y1 _ ho_20) (cwV 1 ht (gi_V tw_3_158 tw_3_160 tw_p_20 tw_1_4 tw_3_161) rfl rfl rfl (by decide +kernel) ⟨Nat.le_of_ble_eq_true rfl, Nat.le_of_ble_eq_true rfl⟩) (jv_pv hK hP hD [0, 1, 2, 3, 4, 5, 6, 7, 8, 9] rfl (by decide) rfl (va_recv hK hP (ci := 6) (q0 := 0) rfl rfl)) rfl rfl hl.1 rfl (lv_room (Nat.le_of_ble_eq_true rfl)) dd_M_addVerdict_20 ⟨Nat.le_of_ble_eq_true rfl, Nat.le_of_ble_eq_true rfl⟩) hP hD hS hA [0, 1, 2, 3, 4, 5, 6, 7, 8, 9] [] rfl rfl (by decide) (by decide) (fun H_12 locs_13 hP hD hS => ?_)
    have hP : va_P (dC, dI) vwCl [(h0, .inr (6, [.int bg, .ref h1, .ref h2, .ref h3, .ref h4, .ref h5, .ref h6, .ref h7, .int o_20.1, .ref h8, .int mt, .int en, .int sx, .int pl, .int ov, .int tk, .ref h9])), (h1, .inl (cC, 6, .inl na)), (h2, .inl (cI, 2, .inl cu)), (h3, .inl (cI, 48, .inl pa)), (h4, .inl (cI, 48, .inl re)), (h5, .inl (cZ, 48, .inl cl)), (h6, .inl (cI, 48, .inl si)), (h7, .inl (cC, 288, .inl lt)), (h8, .inl (cC, 3000, .inl o_20.2)), (h9, .inl (cC, 6, .inl rd))] H_12 := hP.sub [0, 1, 2, 3, 4, 5, 6, 7, 8, 9] rfl
    have hD : va_D A [(h0, .inr (6, [.int bg, .ref h1, .ref h2, .ref h3, .ref h4, .ref h5, .ref h6, .ref h7, .int o_20.1, .ref h8, .int mt, .int en, .int sx, .int pl, .int ov, .int tk, .ref h9])), (h1, .inl (cC, 6, .inl na)), (h2, .inl (cI, 2, .inl cu)), (h3, .inl (cI, 48, .inl pa)), (h4, .inl (cI, 48, .inl re)), (h5, .inl (cZ, 48, .inl cl)), (h6, .inl (cI, 48, .inl si)), (h7, .inl (cC, 288, .inl lt)), (h8, .inl (cC, 3000, .inl o_20.2)), (h9, .inl (cC, 6, .inl rd))] := hD.sub [0, 1, 2, 3, 4, 5, 6, 7, 8, 9] (by decide) rfl
    refine lv_aload_n hx hb dd_M_addVerdict_23 rfl (lv_at hl 0 rfl) ?_
    refine lv_aload_n hx hb dd_M_addVerdict_24 rfl (lv_at hl 0 rfl) ?_
    refine lv_iconst (v := 0) hx hb dd_M_addVerdict_25 (by decide) ?_
    refine lv_iload_n hx hb dd_M_addVerdict_26 rfl (lv_at hl 1 rfl) ?_
    obtain ⟨o_27, ho_27, hF⟩ := jv_bi hF
    refine jv_ci (va_runV (C := cn_M) (As := [.int 0, .int x1]) (rest := [.ref h0]) ⟨hx, hb, hml, hown, ht⟩ (c_M_placeOf l dC dI cI cL cC cZ h0 h1 h2 h3 h4 h5 h6 h7 h8 h9 H_12.size bg o_20.1 mt en sx pl ov tk na cu pa re cl si lt o_20.2 rd 0 x1 _ ho_27) (cwV 2 ht (gi_V tw_3_205 tw_3_207 tw_p_27 tw_1_4 tw_3_208) rfl rfl rfl (by decide +kernel) ⟨Nat.le_of_ble_eq_true rfl, Nat.le_of_ble_eq_true rfl⟩) (jv_pv hK hP hD [0, 1, 2, 3, 4, 5, 6, 7, 8, 9] rfl (by decide) rfl (va_recv hK hP (ci := 6) (q0 := 0) rfl rfl)) rfl rfl hl.1 rfl (lv_room (Nat.le_of_ble_eq_true rfl)) dd_M_addVerdict_27 ⟨Nat.le_of_ble_eq_true rfl, Nat.le_of_ble_eq_true rfl⟩) ?_
    obtain ⟨o_30, ho_30, hF⟩ := jv_bi hF
    refine jv_mv (wr := []) (w1 := [(h0, .inr (6, [.int bg, .ref h1, .ref h2, .ref h3, .ref h4, .ref h5, .ref h6, .ref h7, .int o_30.1, .ref h8, .int mt, .int en, .int sx, .int pl, .int ov, .int tk, .ref h9])), (h1, .inl (cC, 6, .inl na)), (h2, .inl (cI, 2, .inl cu)), (h3, .inl (cI, 48, .inl pa)), (h4, .inl (cI, 48, .inl re)), (h5, .inl (cZ, 48, .inl cl)), (h6, .inl (cI, 48, .inl si)), (h7, .inl (cC, 288, .inl lt)), (h8, .inl (cC, 3000, .inl o_30.2)), (h9, .inl (cC, 6, .inl rd))]) (va_runV (C := cn_M) (As := [.int o_27]) (rest := []) ⟨hx, hb, hml, hown, ht⟩ (c_M_addNumber l dC dI cI cL cC cZ h0 h1 h2 h3 h4 h5 h6 h7 h8 h9 H_12.size bg o_20.1 mt en sx pl ov tk na cu pa re cl si lt o_20.2 rd o_27 _ ho_30) (cwV 1 ht (gi_V tw_3_197 tw_3_199 tw_p_25 tw_1_4 tw_3_200) rfl rfl rfl (by decide +kernel) ⟨Nat.le_of_ble_eq_true rfl, Nat.le_of_ble_eq_true rfl⟩) (jv_pv hK hP hD [0, 1, 2, 3, 4, 5, 6, 7, 8, 9] rfl (by decide) rfl (va_recv hK hP (ci := 6) (q0 := 0) rfl rfl)) rfl rfl hl.1 rfl (lv_room (Nat.le_of_ble_eq_true rfl)) dd_M_addVerdict_30 ⟨Nat.le_of_ble_eq_true rfl, Nat.le_of_ble_eq_true rfl⟩) hP hD hS hA [0, 1, 2, 3, 4, 5, 6, 7, 8, 9] [] rfl rfl (by decide) (by decide) (fun H_14 locs_15 hP hD hS => ?_)
    have hP : va_P (dC, dI) vwCl [(h0, .inr (6, [.int bg, .ref h1, .ref h2, .ref h3, .ref h4, .ref h5, .ref h6, .ref h7, .int o_30.1, .ref h8, .int mt, .int en, .int sx, .int pl, .int ov, .int tk, .ref h9])), (h1, .inl (cC, 6, .inl na)), (h2, .inl (cI, 2, .inl cu)), (h3, .inl (cI, 48, .inl pa)), (h4, .inl (cI, 48, .inl re)), (h5, .inl (cZ, 48, .inl cl)), (h6, .inl (cI, 48, .inl si)), (h7, .inl (cC, 288, .inl lt)), (h8, .inl (cC, 3000, .inl o_30.2)), (h9, .inl (cC, 6, .inl rd))] H_14 := hP.sub [0, 1, 2, 3, 4, 5, 6, 7, 8, 9] rfl
    have hD : va_D A [(h0, .inr (6, [.int bg, .ref h1, .ref h2, .ref h3, .ref h4, .ref h5, .ref h6, .ref h7, .int o_30.1, .ref h8, .int mt, .int en, .int sx, .int pl, .int ov, .int tk, .ref h9])), (h1, .inl (cC, 6, .inl na)), (h2, .inl (cI, 2, .inl cu)), (h3, .inl (cI, 48, .inl pa)), (h4, .inl (cI, 48, .inl re)), (h5, .inl (cZ, 48, .inl cl)), (h6, .inl (cI, 48, .inl si)), (h7, .inl (cC, 288, .inl lt)), (h8, .inl (cC, 3000, .inl o_30.2)), (h9, .inl (cC, 6, .inl rd))] := hD.sub [0, 1, 2, 3, 4, 5, 6, 7, 8, 9] (by decide) rfl
    refine lv_aload_n hx hb dd_M_addVerdict_33 rfl (lv_at hl 0 rfl) ?_
    refine lv_iconst (v := 3) hx hb dd_M_addVerdict_34 (by decide) ?_
    obtain ⟨o_35, ho_35, hF⟩ := jv_bi hF
    refine jv_mv (wr := []) (w1 := [(h0, .inr (6, [.int bg, .ref h1, .ref h2, .ref h3, .ref h4, .ref h5, .ref h6, .ref h7, .int o_35.1, .ref h8, .int mt, .int en, .int sx, .int pl, .int ov, .int tk, .ref h9])), (h1, .inl (cC, 6, .inl na)), (h2, .inl (cI, 2, .inl cu)), (h3, .inl (cI, 48, .inl pa)), (h4, .inl (cI, 48, .inl re)), (h5, .inl (cZ, 48, .inl cl)), (h6, .inl (cI, 48, .inl si)), (h7, .inl (cC, 288, .inl lt)), (h8, .inl (cC, 3000, .inl o_35.2)), (h9, .inl (cC, 6, .inl rd))]) (va_runV (C := cn_M) (As := [.int 3]) (rest := []) ⟨hx, hb, hml, hown, ht⟩ (c_M_addText l dC dI cI cL cC cZ h0 h1 h2 h3 h4 h5 h6 h7 h8 h9 H_14.size bg o_30.1 mt en sx pl ov tk na cu pa re cl si lt o_30.2 rd 3 _ ho_35) (cwV 1 ht (gi_V tw_3_158 tw_3_160 tw_p_20 tw_1_4 tw_3_161) rfl rfl rfl (by decide +kernel) ⟨Nat.le_of_ble_eq_true rfl, Nat.le_of_ble_eq_true rfl⟩) (jv_pv hK hP hD [0, 1, 2, 3, 4, 5, 6, 7, 8, 9] rfl (by decide) rfl (va_recv hK hP (ci := 6) (q0 := 0) rfl rfl)) rfl rfl hl.1 rfl (lv_room (Nat.le_of_ble_eq_true rfl)) dd_M_addVerdict_35 ⟨Nat.le_of_ble_eq_true rfl, Nat.le_of_ble_eq_true rfl⟩) hP hD hS hA [0, 1, 2, 3, 4, 5, 6, 7, 8, 9] [] rfl rfl (by decide) (by decide) (fun H_16 locs_17 hP hD hS => ?_)
    have hP : va_P (dC, dI) vwCl [(h0, .inr (6, [.int bg, .ref h1, .ref h2, .ref h3, .ref h4, .ref h5, .ref h6, .ref h7, .int o_35.1, .ref h8, .int mt, .int en, .int sx, .int pl, .int ov, .int tk, .ref h9])), (h1, .inl (cC, 6, .inl na)), (h2, .inl (cI, 2, .inl cu)), (h3, .inl (cI, 48, .inl pa)), (h4, .inl (cI, 48, .inl re)), (h5, .inl (cZ, 48, .inl cl)), (h6, .inl (cI, 48, .inl si)), (h7, .inl (cC, 288, .inl lt)), (h8, .inl (cC, 3000, .inl o_35.2)), (h9, .inl (cC, 6, .inl rd))] H_16 := hP.sub [0, 1, 2, 3, 4, 5, 6, 7, 8, 9] rfl
    have hD : va_D A [(h0, .inr (6, [.int bg, .ref h1, .ref h2, .ref h3, .ref h4, .ref h5, .ref h6, .ref h7, .int o_35.1, .ref h8, .int mt, .int en, .int sx, .int pl, .int ov, .int tk, .ref h9])), (h1, .inl (cC, 6, .inl na)), (h2, .inl (cI, 2, .inl cu)), (h3, .inl (cI, 48, .inl pa)), (h4, .inl (cI, 48, .inl re)), (h5, .inl (cZ, 48, .inl cl)), (h6, .inl (cI, 48, .inl si)), (h7, .inl (cC, 288, .inl lt)), (h8, .inl (cC, 3000, .inl o_35.2)), (h9, .inl (cC, 6, .inl rd))] := hD.sub [0, 1, 2, 3, 4, 5, 6, 7, 8, 9] (by decide) rfl
    refine lv_aload_n hx hb dd_M_addVerdict_38 rfl (lv_at hl 0 rfl) ?_
    refine lv_iload_n hx hb dd_M_addVerdict_39 rfl (lv_at hl 1 rfl) ?_
    obtain ⟨o_40, ho_40, hF⟩ := jv_bi hF
    refine jv_mv (wr := []) (w1 := [(h0, .inr (6, [.int bg, .ref h1, .ref h2, .ref h3, .ref h4, .ref h5, .ref h6, .ref h7, .int o_40.1, .ref h8, .int mt, .int en, .int sx, .int pl, .int ov, .int tk, .ref h9])), (h1, .inl (cC, 6, .inl na)), (h2, .inl (cI, 2, .inl cu)), (h3, .inl (cI, 48, .inl pa)), (h4, .inl (cI, 48, .inl re)), (h5, .inl (cZ, 48, .inl cl)), (h6, .inl (cI, 48, .inl si)), (h7, .inl (cC, 288, .inl lt)), (h8, .inl (cC, 3000, .inl o_40.2)), (h9, .inl (cC, 6, .inl rd))]) (va_runV (C := cn_M) (As := [.int x1]) (rest := []) ⟨hx, hb, hml, hown, ht⟩ (c_M_addName l dC dI cI cL cC cZ h0 h1 h2 h3 h4 h5 h6 h7 h8 h9 H_16.size bg o_35.1 mt en sx pl ov tk na cu pa re cl si lt o_35.2 rd x1 _ ho_40) (cwV 1 ht (gi_V tw_3_209 tw_3_211 tw_p_28 tw_1_4 tw_3_212) rfl rfl rfl (by decide +kernel) ⟨Nat.le_of_ble_eq_true rfl, Nat.le_of_ble_eq_true rfl⟩) (jv_pv hK hP hD [0, 1, 2, 3, 4, 5, 6, 7, 8, 9] rfl (by decide) rfl (va_recv hK hP (ci := 6) (q0 := 0) rfl rfl)) rfl rfl hl.1 rfl (lv_room (Nat.le_of_ble_eq_true rfl)) dd_M_addVerdict_40 ⟨Nat.le_of_ble_eq_true rfl, Nat.le_of_ble_eq_true rfl⟩) hP hD hS hA [0, 1, 2, 3, 4, 5, 6, 7, 8, 9] [] rfl rfl (by decide) (by decide) (fun H_18 locs_19 hP hD hS => ?_)
    have hP : va_P (dC, dI) vwCl [(h0, .inr (6, [.int bg, .ref h1, .ref h2, .ref h3, .ref h4, .ref h5, .ref h6, .ref h7, .int o_40.1, .ref h8, .int mt, .int en, .int sx, .int pl, .int ov, .int tk, .ref h9])), (h1, .inl (cC, 6, .inl na)), (h2, .inl (cI, 2, .inl cu)), (h3, .inl (cI, 48, .inl pa)), (h4, .inl (cI, 48, .inl re)), (h5, .inl (cZ, 48, .inl cl)), (h6, .inl (cI, 48, .inl si)), (h7, .inl (cC, 288, .inl lt)), (h8, .inl (cC, 3000, .inl o_40.2)), (h9, .inl (cC, 6, .inl rd))] H_18 := hP.sub [0, 1, 2, 3, 4, 5, 6, 7, 8, 9] rfl
    have hD : va_D A [(h0, .inr (6, [.int bg, .ref h1, .ref h2, .ref h3, .ref h4, .ref h5, .ref h6, .ref h7, .int o_40.1, .ref h8, .int mt, .int en, .int sx, .int pl, .int ov, .int tk, .ref h9])), (h1, .inl (cC, 6, .inl na)), (h2, .inl (cI, 2, .inl cu)), (h3, .inl (cI, 48, .inl pa)), (h4, .inl (cI, 48, .inl re)), (h5, .inl (cZ, 48, .inl cl)), (h6, .inl (cI, 48, .inl si)), (h7, .inl (cC, 288, .inl lt)), (h8, .inl (cC, 3000, .inl o_40.2)), (h9, .inl (cC, 6, .inl rd))] := hD.sub [0, 1, 2, 3, 4, 5, 6, 7, 8, 9] (by decide) rfl
    subst hQ
    obtain rfl := Option.some.inj hF
    exact W.vret hx hb hr (fun t ht hW => ⟨⟨(), rfl, trivial, by rw [ht]; exact hP, va_K.moved hW.alike hK, hD⟩, hS.F ht⟩) hS.2.2 dd_M_addVerdict_43
  unfold fn_M_addVerdict at hF
  refine lv_aload_n hx hb dd_M_addVerdict_0 rfl (lv_at hl 0 rfl) ?_
  refine lv_aload_n hx hb dd_M_addVerdict_1 rfl (lv_at hl 0 rfl) ?_
  refine lv_iconst (v := 0) hx hb dd_M_addVerdict_2 (by decide) ?_
  refine lv_iload_n hx hb dd_M_addVerdict_3 rfl (lv_at hl 1 rfl) ?_
  obtain ⟨o_4, ho_4, hF⟩ := jv_bi hF
  refine jv_ci (va_runV (C := cn_M) (As := [.int 0, .int x1]) (rest := [.ref h0]) ⟨hx, hb, hml, hown, ht⟩ (c_M_depthOf l dC dI cI cL cC cZ h0 h1 h2 h3 h4 h5 h6 h7 h8 h9 s.heap.size bg ln mt en sx pl ov tk na cu pa re cl si lt pg rd 0 x1 _ ho_4) (cwV 2 ht (gi_V tw_3_106 tw_3_108 tw_p_15 tw_1_4 tw_3_109) rfl rfl rfl (by decide +kernel) ⟨Nat.le_of_ble_eq_true rfl, Nat.le_of_ble_eq_true rfl⟩) (jv_pv hK hP hD [0, 1, 2, 3, 4, 5, 6, 7, 8, 9] rfl (by decide) rfl (va_recv hK hP (ci := 6) (q0 := 0) rfl rfl)) rfl rfl hl.1 rfl (lv_room (Nat.le_of_ble_eq_true rfl)) dd_M_addVerdict_4 ⟨Nat.le_of_ble_eq_true rfl, Nat.le_of_ble_eq_true rfl⟩) ?_
  obtain ⟨o_7, ho_7, hF⟩ := jv_bi hF
  refine jv_mv (wr := []) (w1 := [(h0, .inr (6, [.int bg, .ref h1, .ref h2, .ref h3, .ref h4, .ref h5, .ref h6, .ref h7, .int o_7.1, .ref h8, .int mt, .int en, .int sx, .int pl, .int ov, .int tk, .ref h9])), (h1, .inl (cC, 6, .inl na)), (h2, .inl (cI, 2, .inl cu)), (h3, .inl (cI, 48, .inl pa)), (h4, .inl (cI, 48, .inl re)), (h5, .inl (cZ, 48, .inl cl)), (h6, .inl (cI, 48, .inl si)), (h7, .inl (cC, 288, .inl lt)), (h8, .inl (cC, 3000, .inl o_7.2)), (h9, .inl (cC, 6, .inl rd))]) (va_runV (C := cn_M) (As := [.int o_4]) (rest := []) ⟨hx, hb, hml, hown, ht⟩ (c_M_addSpaces l dC dI cI cL cC cZ h0 h1 h2 h3 h4 h5 h6 h7 h8 h9 s.heap.size bg ln mt en sx pl ov tk na cu pa re cl si lt pg rd o_4 _ ho_7) (cwV 1 ht (gi_V tw_3_189 tw_3_191 tw_p_23 tw_1_4 tw_3_192) rfl rfl rfl (by decide +kernel) ⟨Nat.le_of_ble_eq_true rfl, Nat.le_of_ble_eq_true rfl⟩) (jv_pv hK hP hD [0, 1, 2, 3, 4, 5, 6, 7, 8, 9] rfl (by decide) rfl (va_recv hK hP (ci := 6) (q0 := 0) rfl rfl)) rfl rfl hl.1 rfl (lv_room (Nat.le_of_ble_eq_true rfl)) dd_M_addVerdict_7 ⟨Nat.le_of_ble_eq_true rfl, Nat.le_of_ble_eq_true rfl⟩) hP hD hS hA [0, 1, 2, 3, 4, 5, 6, 7, 8, 9] [] rfl rfl (by decide) (by decide) (fun H_20 locs_21 hP hD hS => ?_)
  have hP : va_P (dC, dI) vwCl [(h0, .inr (6, [.int bg, .ref h1, .ref h2, .ref h3, .ref h4, .ref h5, .ref h6, .ref h7, .int o_7.1, .ref h8, .int mt, .int en, .int sx, .int pl, .int ov, .int tk, .ref h9])), (h1, .inl (cC, 6, .inl na)), (h2, .inl (cI, 2, .inl cu)), (h3, .inl (cI, 48, .inl pa)), (h4, .inl (cI, 48, .inl re)), (h5, .inl (cZ, 48, .inl cl)), (h6, .inl (cI, 48, .inl si)), (h7, .inl (cC, 288, .inl lt)), (h8, .inl (cC, 3000, .inl o_7.2)), (h9, .inl (cC, 6, .inl rd))] H_20 := hP.sub [0, 1, 2, 3, 4, 5, 6, 7, 8, 9] rfl
  have hD : va_D A [(h0, .inr (6, [.int bg, .ref h1, .ref h2, .ref h3, .ref h4, .ref h5, .ref h6, .ref h7, .int o_7.1, .ref h8, .int mt, .int en, .int sx, .int pl, .int ov, .int tk, .ref h9])), (h1, .inl (cC, 6, .inl na)), (h2, .inl (cI, 2, .inl cu)), (h3, .inl (cI, 48, .inl pa)), (h4, .inl (cI, 48, .inl re)), (h5, .inl (cZ, 48, .inl cl)), (h6, .inl (cI, 48, .inl si)), (h7, .inl (cC, 288, .inl lt)), (h8, .inl (cC, 3000, .inl o_7.2)), (h9, .inl (cC, 6, .inl rd))] := hD.sub [0, 1, 2, 3, 4, 5, 6, 7, 8, 9] (by decide) rfl
  refine lv_aload_n hx hb dd_M_addVerdict_10 rfl (lv_at hl 0 rfl) ?_
  refine lv_iload_n hx hb dd_M_addVerdict_11 rfl (lv_at hl 2 rfl) ?_
  refine lv_if_eq (tgt := 19) hx hb dd_M_addVerdict_12 (by decide) (fun c_22 => ?_) (fun c_22 => ?_)
  · have hF := jv_t c_22 hF
    refine lv_iconst (v := 2) hx hb dd_M_addVerdict_19 (by decide) ?_
    exact bl20 o_7.1 o_7.2 x1 2 hF H_20 locs_21 hP hD hS ls (lv_sub hl [0, 1] rfl)
  · have hF := jv_f c_22 hF
    refine lv_iconst (v := 1) hx hb dd_M_addVerdict_15 (by decide) ?_
    refine lv_goto (tgt := 20) hx hb dd_M_addVerdict_16 (by decide) ?_
    exact bl20 o_7.1 o_7.2 x1 1 hF H_20 locs_21 hP hD hS ls (lv_sub hl [0, 1] rfl)
set_option maxHeartbeats 40000000 in
set_option maxRecDepth 100000 in
theorem c_M_finish (l : Launch) (dC : Nat → ClassId) (dI : Nat → Nat → Nat) (cI cL cC cZ : ClassId) (h0 h1 h2 h3 h4 h5 h6 h7 h8 h9 : Nat) (sz : Nat) (bg : Int32) (ln : Int32) (mt : Int32) (en : Int32) (sx : Int32) (pl : Int32) (ov : Int32) (tk : Int32) (na : Nat → Int32) (cu : Nat → Int32) (pa : Nat → Int32) (re : Nat → Int32) (cl : Nat → Int32) (si : Nat → Int32) (lt : Nat → Int32) (pg : Nat → Int32) (rd : Nat → Int32) (x1 : Int32) (out : Int32 × (Nat → Int32)) (hF : fn_M_finish cu pa re si lt ln pg x1 = some out) : Met l yy_M_finish ws_M_finish { frames := 4, cells := 0, slots := 0, locals := 88 } (mP_ (dC, dI) (tk_ cI cL cC cZ) [(h0, .inr (6, [.int bg, .ref h1, .ref h2, .ref h3, .ref h4, .ref h5, .ref h6, .ref h7, .int ln, .ref h8, .int mt, .int en, .int sx, .int pl, .int ov, .int tk, .ref h9])), (h1, .inl (cC, 6, .inl na)), (h2, .inl (cI, 2, .inl cu)), (h3, .inl (cI, 48, .inl pa)), (h4, .inl (cI, 48, .inl re)), (h5, .inl (cZ, 48, .inl cl)), (h6, .inl (cI, 48, .inl si)), (h7, .inl (cC, 288, .inl lt)), (h8, .inl (cC, 3000, .inl pg)), (h9, .inl (cC, 6, .inl rd))] sz [.ref h0, .int x1]) (va_Qv (fun _ : Unit => True) (mB_ (dC, dI) (tk_ cI cL cC cZ) [(h0, .inr (6, [.int bg, .ref h1, .ref h2, .ref h3, .ref h4, .ref h5, .ref h6, .ref h7, .int out.1, .ref h8, .int mt, .int en, .int sx, .int pl, .int ov, .int tk, .ref h9])), (h1, .inl (cC, 6, .inl na)), (h2, .inl (cI, 2, .inl cu)), (h3, .inl (cI, 48, .inl pa)), (h4, .inl (cI, 48, .inl re)), (h5, .inl (cZ, 48, .inl cl)), (h6, .inl (cI, 48, .inl si)), (h7, .inl (cC, 288, .inl lt)), (h8, .inl (cC, 3000, .inl out.2)), (h9, .inl (cC, 6, .inl rd))] (va_A [(h0, .inr (6, [.int bg, .ref h1, .ref h2, .ref h3, .ref h4, .ref h5, .ref h6, .ref h7, .int ln, .ref h8, .int mt, .int en, .int sx, .int pl, .int ov, .int tk, .ref h9])), (h1, .inl (cC, 6, .inl na)), (h2, .inl (cI, 2, .inl cu)), (h3, .inl (cI, 48, .inl pa)), (h4, .inl (cI, 48, .inl re)), (h5, .inl (cZ, 48, .inl cl)), (h6, .inl (cI, 48, .inl si)), (h7, .inl (cC, 288, .inl lt)), (h8, .inl (cC, 3000, .inl pg)), (h9, .inl (cC, 6, .inl rd))] sz)) (va_A [(h0, .inr (6, [.int bg, .ref h1, .ref h2, .ref h3, .ref h4, .ref h5, .ref h6, .ref h7, .int ln, .ref h8, .int mt, .int en, .int sx, .int pl, .int ov, .int tk, .ref h9])), (h1, .inl (cC, 6, .inl na)), (h2, .inl (cI, 2, .inl cu)), (h3, .inl (cI, 48, .inl pa)), (h4, .inl (cI, 48, .inl re)), (h5, .inl (cZ, 48, .inl cl)), (h6, .inl (cI, 48, .inl si)), (h7, .inl (cC, 288, .inl lt)), (h8, .inl (cC, 3000, .inl pg)), (h9, .inl (cC, 6, .inl rd))] sz)) 0 0 (va_A [(h0, .inr (6, [.int bg, .ref h1, .ref h2, .ref h3, .ref h4, .ref h5, .ref h6, .ref h7, .int ln, .ref h8, .int mt, .int en, .int sx, .int pl, .int ov, .int tk, .ref h9])), (h1, .inl (cC, 6, .inl na)), (h2, .inl (cI, 2, .inl cu)), (h3, .inl (cI, 48, .inl pa)), (h4, .inl (cI, 48, .inl re)), (h5, .inl (cZ, 48, .inl cl)), (h6, .inl (cI, 48, .inl si)), (h7, .inl (cC, 288, .inl lt)), (h8, .inl (cC, 3000, .inl pg)), (h9, .inl (cC, 6, .inl rd))] sz) := by
  refine Met.ofW (cc := cc_M_finish) (maxL := 2) (ret := none) (by decide) rfl ?_
  intro p e s m args below meth c s₁ B hml hv
  obtain ⟨hargs, hsz, hP, hK, hD0⟩ := hv
  have hx := B.exec
  have hb := B.bytes
  have hr := B.returns
  have hts := atoms_spec (ws := ws_M_finish) B.pre
  have ht : ∀ w ∈ TB_, w.before args s = true := fun w h => hts w (List.mem_cons_of_mem _ h)
  have hown : s.vm.findClass cn_M = some m.cls := findClass_of_methodNamed B.named
  have hlocks := B.notSynchronized
  subst hsz
  have hD := hD0.self (sz := s.heap.size)
  generalize hAe : va_A [(h0, .inr (6, [.int bg, .ref h1, .ref h2, .ref h3, .ref h4, .ref h5, .ref h6, .ref h7, .int ln, .ref h8, .int mt, .int en, .int sx, .int pl, .int ov, .int tk, .ref h9])), (h1, .inl (cC, 6, .inl na)), (h2, .inl (cI, 2, .inl cu)), (h3, .inl (cI, 48, .inl pa)), (h4, .inl (cI, 48, .inl re)), (h5, .inl (cZ, 48, .inl cl)), (h6, .inl (cI, 48, .inl si)), (h7, .inl (cC, 288, .inl lt)), (h8, .inl (cC, 3000, .inl pg)), (h9, .inl (cC, 6, .inl rd))] s.heap.size = A at hD ⊢
  have hA : ∀ q : Nat, s.heap.size ≤ q → A q := fun q h => by rw [← hAe]; exact Or.inr h
  have hS : va_S A s.heap s.heap [] := va_S.rf
  have hP : va_P (dC, dI) vwCl [(h0, .inr (6, [.int bg, .ref h1, .ref h2, .ref h3, .ref h4, .ref h5, .ref h6, .ref h7, .int ln, .ref h8, .int mt, .int en, .int sx, .int pl, .int ov, .int tk, .ref h9])), (h1, .inl (cC, 6, .inl na)), (h2, .inl (cI, 2, .inl cu)), (h3, .inl (cI, 48, .inl pa)), (h4, .inl (cI, 48, .inl re)), (h5, .inl (cZ, 48, .inl cl)), (h6, .inl (cI, 48, .inl si)), (h7, .inl (cC, 288, .inl lt)), (h8, .inl (cC, 3000, .inl pg)), (h9, .inl (cC, 6, .inl rd))] s.heap := hP
  have hl := lv_entry [.ref h0, .int x1] (n := 2) (Nat.le_of_ble_eq_true rfl)
  have he : entryFrame m args 2 = _ := (congrArg (fun a => entryFrame m a 2) hargs).trans (lg_entry_eq m [.ref h0, .int x1] 2)
  rw [he]
  generalize (lg_sl [.ref h0, .int x1] ++ List.replicate (2 - (lg_sl [.ref h0, .int x1]).length) Slot.unset).toArray = ls at hl ⊢
  have hl : lv_has ls 2 [(0, .ref h0), (1, .int x1)] := hl
  generalize hQ : MQ below _ args s _ _ _ = Q
  unfold fn_M_finish at hF
  refine lv_aload_n hx hb dd_M_finish_0 rfl (lv_at hl 0 rfl) ?_
  refine lv_aload_n hx hb dd_M_finish_1 rfl (lv_at hl 0 rfl) ?_
  refine lv_iconst (v := 0) hx hb dd_M_finish_2 (by decide) ?_
  refine lv_iload_n hx hb dd_M_finish_3 rfl (lv_at hl 1 rfl) ?_
  obtain ⟨o_4, ho_4, hF⟩ := jv_bi hF
  refine jv_ci (va_runV (C := cn_M) (As := [.int 0, .int x1]) (rest := [.ref h0]) ⟨hx, hb, hml, hown, ht⟩ (c_M_depthOf l dC dI cI cL cC cZ h0 h1 h2 h3 h4 h5 h6 h7 h8 h9 s.heap.size bg ln mt en sx pl ov tk na cu pa re cl si lt pg rd 0 x1 _ ho_4) (cwV 2 ht (gi_V tw_3_106 tw_3_108 tw_p_15 tw_1_4 tw_3_109) rfl rfl rfl (by decide +kernel) ⟨Nat.le_of_ble_eq_true rfl, Nat.le_of_ble_eq_true rfl⟩) (jv_pv hK hP hD [0, 1, 2, 3, 4, 5, 6, 7, 8, 9] rfl (by decide) rfl (va_recv hK hP (ci := 6) (q0 := 0) rfl rfl)) rfl rfl hl.1 rfl (lv_room (Nat.le_of_ble_eq_true rfl)) dd_M_finish_4 ⟨Nat.le_of_ble_eq_true rfl, Nat.le_of_ble_eq_true rfl⟩) ?_
  refine lv_iconst (v := 1) hx hb dd_M_finish_7 (by decide) ?_
  refine lv_iadd hx hb dd_M_finish_8 ?_
  obtain ⟨o_9, ho_9, hF⟩ := jv_bi hF
  refine jv_mv (wr := []) (w1 := [(h0, .inr (6, [.int bg, .ref h1, .ref h2, .ref h3, .ref h4, .ref h5, .ref h6, .ref h7, .int o_9.1, .ref h8, .int mt, .int en, .int sx, .int pl, .int ov, .int tk, .ref h9])), (h1, .inl (cC, 6, .inl na)), (h2, .inl (cI, 2, .inl cu)), (h3, .inl (cI, 48, .inl pa)), (h4, .inl (cI, 48, .inl re)), (h5, .inl (cZ, 48, .inl cl)), (h6, .inl (cI, 48, .inl si)), (h7, .inl (cC, 288, .inl lt)), (h8, .inl (cC, 3000, .inl o_9.2)), (h9, .inl (cC, 6, .inl rd))]) (va_runV (C := cn_M) (As := [.int (o_4 + 1)]) (rest := []) ⟨hx, hb, hml, hown, ht⟩ (c_M_addSpaces l dC dI cI cL cC cZ h0 h1 h2 h3 h4 h5 h6 h7 h8 h9 s.heap.size bg ln mt en sx pl ov tk na cu pa re cl si lt pg rd (o_4 + 1) _ ho_9) (cwV 1 ht (gi_V tw_3_189 tw_3_191 tw_p_23 tw_1_4 tw_3_192) rfl rfl rfl (by decide +kernel) ⟨Nat.le_of_ble_eq_true rfl, Nat.le_of_ble_eq_true rfl⟩) (jv_pv hK hP hD [0, 1, 2, 3, 4, 5, 6, 7, 8, 9] rfl (by decide) rfl (va_recv hK hP (ci := 6) (q0 := 0) rfl rfl)) rfl rfl hl.1 rfl (lv_room (Nat.le_of_ble_eq_true rfl)) dd_M_finish_9 ⟨Nat.le_of_ble_eq_true rfl, Nat.le_of_ble_eq_true rfl⟩) hP hD hS hA [0, 1, 2, 3, 4, 5, 6, 7, 8, 9] [] rfl rfl (by decide) (by decide) (fun H_13 locs_14 hP hD hS => ?_)
  have hP : va_P (dC, dI) vwCl [(h0, .inr (6, [.int bg, .ref h1, .ref h2, .ref h3, .ref h4, .ref h5, .ref h6, .ref h7, .int o_9.1, .ref h8, .int mt, .int en, .int sx, .int pl, .int ov, .int tk, .ref h9])), (h1, .inl (cC, 6, .inl na)), (h2, .inl (cI, 2, .inl cu)), (h3, .inl (cI, 48, .inl pa)), (h4, .inl (cI, 48, .inl re)), (h5, .inl (cZ, 48, .inl cl)), (h6, .inl (cI, 48, .inl si)), (h7, .inl (cC, 288, .inl lt)), (h8, .inl (cC, 3000, .inl o_9.2)), (h9, .inl (cC, 6, .inl rd))] H_13 := hP.sub [0, 1, 2, 3, 4, 5, 6, 7, 8, 9] rfl
  have hD : va_D A [(h0, .inr (6, [.int bg, .ref h1, .ref h2, .ref h3, .ref h4, .ref h5, .ref h6, .ref h7, .int o_9.1, .ref h8, .int mt, .int en, .int sx, .int pl, .int ov, .int tk, .ref h9])), (h1, .inl (cC, 6, .inl na)), (h2, .inl (cI, 2, .inl cu)), (h3, .inl (cI, 48, .inl pa)), (h4, .inl (cI, 48, .inl re)), (h5, .inl (cZ, 48, .inl cl)), (h6, .inl (cI, 48, .inl si)), (h7, .inl (cC, 288, .inl lt)), (h8, .inl (cC, 3000, .inl o_9.2)), (h9, .inl (cC, 6, .inl rd))] := hD.sub [0, 1, 2, 3, 4, 5, 6, 7, 8, 9] (by decide) rfl
  refine lv_aload_n hx hb dd_M_finish_12 rfl (lv_at hl 0 rfl) ?_
  refine lv_bipush (v := 7) hx hb dd_M_finish_13 (by decide) ?_
  obtain ⟨o_15, ho_15, hF⟩ := jv_bi hF
  refine jv_mv (wr := []) (w1 := [(h0, .inr (6, [.int bg, .ref h1, .ref h2, .ref h3, .ref h4, .ref h5, .ref h6, .ref h7, .int o_15.1, .ref h8, .int mt, .int en, .int sx, .int pl, .int ov, .int tk, .ref h9])), (h1, .inl (cC, 6, .inl na)), (h2, .inl (cI, 2, .inl cu)), (h3, .inl (cI, 48, .inl pa)), (h4, .inl (cI, 48, .inl re)), (h5, .inl (cZ, 48, .inl cl)), (h6, .inl (cI, 48, .inl si)), (h7, .inl (cC, 288, .inl lt)), (h8, .inl (cC, 3000, .inl o_15.2)), (h9, .inl (cC, 6, .inl rd))]) (va_runV (C := cn_M) (As := [.int 7]) (rest := []) ⟨hx, hb, hml, hown, ht⟩ (c_M_addText l dC dI cI cL cC cZ h0 h1 h2 h3 h4 h5 h6 h7 h8 h9 H_13.size bg o_9.1 mt en sx pl ov tk na cu pa re cl si lt o_9.2 rd 7 _ ho_15) (cwV 1 ht (gi_V tw_3_158 tw_3_160 tw_p_20 tw_1_4 tw_3_161) rfl rfl rfl (by decide +kernel) ⟨Nat.le_of_ble_eq_true rfl, Nat.le_of_ble_eq_true rfl⟩) (jv_pv hK hP hD [0, 1, 2, 3, 4, 5, 6, 7, 8, 9] rfl (by decide) rfl (va_recv hK hP (ci := 6) (q0 := 0) rfl rfl)) rfl rfl hl.1 rfl (lv_room (Nat.le_of_ble_eq_true rfl)) dd_M_finish_15 ⟨Nat.le_of_ble_eq_true rfl, Nat.le_of_ble_eq_true rfl⟩) hP hD hS hA [0, 1, 2, 3, 4, 5, 6, 7, 8, 9] [] rfl rfl (by decide) (by decide) (fun H_15 locs_16 hP hD hS => ?_)
  have hP : va_P (dC, dI) vwCl [(h0, .inr (6, [.int bg, .ref h1, .ref h2, .ref h3, .ref h4, .ref h5, .ref h6, .ref h7, .int o_15.1, .ref h8, .int mt, .int en, .int sx, .int pl, .int ov, .int tk, .ref h9])), (h1, .inl (cC, 6, .inl na)), (h2, .inl (cI, 2, .inl cu)), (h3, .inl (cI, 48, .inl pa)), (h4, .inl (cI, 48, .inl re)), (h5, .inl (cZ, 48, .inl cl)), (h6, .inl (cI, 48, .inl si)), (h7, .inl (cC, 288, .inl lt)), (h8, .inl (cC, 3000, .inl o_15.2)), (h9, .inl (cC, 6, .inl rd))] H_15 := hP.sub [0, 1, 2, 3, 4, 5, 6, 7, 8, 9] rfl
  have hD : va_D A [(h0, .inr (6, [.int bg, .ref h1, .ref h2, .ref h3, .ref h4, .ref h5, .ref h6, .ref h7, .int o_15.1, .ref h8, .int mt, .int en, .int sx, .int pl, .int ov, .int tk, .ref h9])), (h1, .inl (cC, 6, .inl na)), (h2, .inl (cI, 2, .inl cu)), (h3, .inl (cI, 48, .inl pa)), (h4, .inl (cI, 48, .inl re)), (h5, .inl (cZ, 48, .inl cl)), (h6, .inl (cI, 48, .inl si)), (h7, .inl (cC, 288, .inl lt)), (h8, .inl (cC, 3000, .inl o_15.2)), (h9, .inl (cC, 6, .inl rd))] := hD.sub [0, 1, 2, 3, 4, 5, 6, 7, 8, 9] (by decide) rfl
  refine lv_aload_n hx hb dd_M_finish_18 rfl (lv_at hl 0 rfl) ?_
  refine lv_aload_n hx hb dd_M_finish_19 rfl (lv_at hl 0 rfl) ?_
  refine lv_iconst (v := 0) hx hb dd_M_finish_20 (by decide) ?_
  refine lv_iload_n hx hb dd_M_finish_21 rfl (lv_at hl 1 rfl) ?_
  obtain ⟨o_22, ho_22, hF⟩ := jv_bi hF
  refine jv_ci (va_runV (C := cn_M) (As := [.int 0, .int x1]) (rest := [.ref h0]) ⟨hx, hb, hml, hown, ht⟩ (c_M_rowSize l dC dI cI cL cC cZ h0 h1 h2 h3 h4 h5 h6 h7 h8 h9 H_15.size bg o_15.1 mt en sx pl ov tk na cu pa re cl si lt o_15.2 rd 0 x1 _ ho_22) (cwV 2 ht (gi_V tw_3_193 tw_3_195 tw_p_24 tw_1_4 tw_3_196) rfl rfl rfl (by decide +kernel) ⟨Nat.le_of_ble_eq_true rfl, Nat.le_of_ble_eq_true rfl⟩) (jv_pv hK hP hD [0, 1, 2, 3, 4, 5, 6, 7, 8, 9] rfl (by decide) rfl (va_recv hK hP (ci := 6) (q0 := 0) rfl rfl)) rfl rfl hl.1 rfl (lv_room (Nat.le_of_ble_eq_true rfl)) dd_M_finish_22 ⟨Nat.le_of_ble_eq_true rfl, Nat.le_of_ble_eq_true rfl⟩) ?_
  obtain ⟨o_25, ho_25, hF⟩ := jv_bi hF
  refine jv_mv (wr := []) (w1 := [(h0, .inr (6, [.int bg, .ref h1, .ref h2, .ref h3, .ref h4, .ref h5, .ref h6, .ref h7, .int o_25.1, .ref h8, .int mt, .int en, .int sx, .int pl, .int ov, .int tk, .ref h9])), (h1, .inl (cC, 6, .inl na)), (h2, .inl (cI, 2, .inl cu)), (h3, .inl (cI, 48, .inl pa)), (h4, .inl (cI, 48, .inl re)), (h5, .inl (cZ, 48, .inl cl)), (h6, .inl (cI, 48, .inl si)), (h7, .inl (cC, 288, .inl lt)), (h8, .inl (cC, 3000, .inl o_25.2)), (h9, .inl (cC, 6, .inl rd))]) (va_runV (C := cn_M) (As := [.int o_22]) (rest := []) ⟨hx, hb, hml, hown, ht⟩ (c_M_addNumber l dC dI cI cL cC cZ h0 h1 h2 h3 h4 h5 h6 h7 h8 h9 H_15.size bg o_15.1 mt en sx pl ov tk na cu pa re cl si lt o_15.2 rd o_22 _ ho_25) (cwV 1 ht (gi_V tw_3_197 tw_3_199 tw_p_25 tw_1_4 tw_3_200) rfl rfl rfl (by decide +kernel) ⟨Nat.le_of_ble_eq_true rfl, Nat.le_of_ble_eq_true rfl⟩) (jv_pv hK hP hD [0, 1, 2, 3, 4, 5, 6, 7, 8, 9] rfl (by decide) rfl (va_recv hK hP (ci := 6) (q0 := 0) rfl rfl)) rfl rfl hl.1 rfl (lv_room (Nat.le_of_ble_eq_true rfl)) dd_M_finish_25 ⟨Nat.le_of_ble_eq_true rfl, Nat.le_of_ble_eq_true rfl⟩) hP hD hS hA [0, 1, 2, 3, 4, 5, 6, 7, 8, 9] [] rfl rfl (by decide) (by decide) (fun H_17 locs_18 hP hD hS => ?_)
  have hP : va_P (dC, dI) vwCl [(h0, .inr (6, [.int bg, .ref h1, .ref h2, .ref h3, .ref h4, .ref h5, .ref h6, .ref h7, .int o_25.1, .ref h8, .int mt, .int en, .int sx, .int pl, .int ov, .int tk, .ref h9])), (h1, .inl (cC, 6, .inl na)), (h2, .inl (cI, 2, .inl cu)), (h3, .inl (cI, 48, .inl pa)), (h4, .inl (cI, 48, .inl re)), (h5, .inl (cZ, 48, .inl cl)), (h6, .inl (cI, 48, .inl si)), (h7, .inl (cC, 288, .inl lt)), (h8, .inl (cC, 3000, .inl o_25.2)), (h9, .inl (cC, 6, .inl rd))] H_17 := hP.sub [0, 1, 2, 3, 4, 5, 6, 7, 8, 9] rfl
  have hD : va_D A [(h0, .inr (6, [.int bg, .ref h1, .ref h2, .ref h3, .ref h4, .ref h5, .ref h6, .ref h7, .int o_25.1, .ref h8, .int mt, .int en, .int sx, .int pl, .int ov, .int tk, .ref h9])), (h1, .inl (cC, 6, .inl na)), (h2, .inl (cI, 2, .inl cu)), (h3, .inl (cI, 48, .inl pa)), (h4, .inl (cI, 48, .inl re)), (h5, .inl (cZ, 48, .inl cl)), (h6, .inl (cI, 48, .inl si)), (h7, .inl (cC, 288, .inl lt)), (h8, .inl (cC, 3000, .inl o_25.2)), (h9, .inl (cC, 6, .inl rd))] := hD.sub [0, 1, 2, 3, 4, 5, 6, 7, 8, 9] (by decide) rfl
  refine lv_aload_n hx hb dd_M_finish_28 rfl (lv_at hl 0 rfl) ?_
  refine lv_bipush (v := 10) hx hb dd_M_finish_29 (by decide) ?_
  obtain ⟨o_31, ho_31, hF⟩ := jv_bi hF
  refine jv_mv (wr := []) (w1 := [(h0, .inr (6, [.int bg, .ref h1, .ref h2, .ref h3, .ref h4, .ref h5, .ref h6, .ref h7, .int o_31.1, .ref h8, .int mt, .int en, .int sx, .int pl, .int ov, .int tk, .ref h9])), (h1, .inl (cC, 6, .inl na)), (h2, .inl (cI, 2, .inl cu)), (h3, .inl (cI, 48, .inl pa)), (h4, .inl (cI, 48, .inl re)), (h5, .inl (cZ, 48, .inl cl)), (h6, .inl (cI, 48, .inl si)), (h7, .inl (cC, 288, .inl lt)), (h8, .inl (cC, 3000, .inl o_31.2)), (h9, .inl (cC, 6, .inl rd))]) (va_runV (C := cn_M) (As := [.int 10]) (rest := []) ⟨hx, hb, hml, hown, ht⟩ (c_M_add l dC dI cI cL cC cZ h0 h1 h2 h3 h4 h5 h6 h7 h8 h9 H_17.size bg o_25.1 mt en sx pl ov tk na cu pa re cl si lt o_25.2 rd 10 _ ho_31) (cwV 1 ht (gi_V tw_3_181 tw_3_183 tw_p_21 tw_1_4 tw_3_184) rfl rfl rfl (by decide +kernel) ⟨Nat.le_of_ble_eq_true rfl, Nat.le_of_ble_eq_true rfl⟩) (jv_pv hK hP hD [0, 1, 2, 3, 4, 5, 6, 7, 8, 9] rfl (by decide) rfl (va_recv hK hP (ci := 6) (q0 := 0) rfl rfl)) rfl rfl hl.1 rfl (lv_room (Nat.le_of_ble_eq_true rfl)) dd_M_finish_31 ⟨Nat.le_of_ble_eq_true rfl, Nat.le_of_ble_eq_true rfl⟩) hP hD hS hA [0, 1, 2, 3, 4, 5, 6, 7, 8, 9] [] rfl rfl (by decide) (by decide) (fun H_19 locs_20 hP hD hS => ?_)
  have hP : va_P (dC, dI) vwCl [(h0, .inr (6, [.int bg, .ref h1, .ref h2, .ref h3, .ref h4, .ref h5, .ref h6, .ref h7, .int o_31.1, .ref h8, .int mt, .int en, .int sx, .int pl, .int ov, .int tk, .ref h9])), (h1, .inl (cC, 6, .inl na)), (h2, .inl (cI, 2, .inl cu)), (h3, .inl (cI, 48, .inl pa)), (h4, .inl (cI, 48, .inl re)), (h5, .inl (cZ, 48, .inl cl)), (h6, .inl (cI, 48, .inl si)), (h7, .inl (cC, 288, .inl lt)), (h8, .inl (cC, 3000, .inl o_31.2)), (h9, .inl (cC, 6, .inl rd))] H_19 := hP.sub [0, 1, 2, 3, 4, 5, 6, 7, 8, 9] rfl
  have hD : va_D A [(h0, .inr (6, [.int bg, .ref h1, .ref h2, .ref h3, .ref h4, .ref h5, .ref h6, .ref h7, .int o_31.1, .ref h8, .int mt, .int en, .int sx, .int pl, .int ov, .int tk, .ref h9])), (h1, .inl (cC, 6, .inl na)), (h2, .inl (cI, 2, .inl cu)), (h3, .inl (cI, 48, .inl pa)), (h4, .inl (cI, 48, .inl re)), (h5, .inl (cZ, 48, .inl cl)), (h6, .inl (cI, 48, .inl si)), (h7, .inl (cC, 288, .inl lt)), (h8, .inl (cC, 3000, .inl o_31.2)), (h9, .inl (cC, 6, .inl rd))] := hD.sub [0, 1, 2, 3, 4, 5, 6, 7, 8, 9] (by decide) rfl
  refine lv_aload_n hx hb dd_M_finish_34 rfl (lv_at hl 0 rfl) ?_
  refine lv_iload_n hx hb dd_M_finish_35 rfl (lv_at hl 1 rfl) ?_
  refine lv_aload_n hx hb dd_M_finish_36 rfl (lv_at hl 0 rfl) ?_
  refine lv_iconst (v := 0) hx hb dd_M_finish_37 (by decide) ?_
  refine lv_iload_n hx hb dd_M_finish_38 rfl (lv_at hl 1 rfl) ?_
  obtain ⟨o_39, ho_39, hF⟩ := jv_bi hF
  refine jv_ci (va_runV (C := cn_M) (As := [.int 0, .int x1]) (rest := [.int x1, .ref h0]) ⟨hx, hb, hml, hown, ht⟩ (c_M_good l dC dI cI cL cC cZ h0 h1 h2 h3 h4 h5 h6 h7 h8 h9 H_19.size bg o_31.1 mt en sx pl ov tk na cu pa re cl si lt o_31.2 rd 0 x1 _ ho_39) (cwV 2 ht (gi_V tw_3_142 tw_3_144 tw_p_19 tw_1_4 tw_3_145) rfl rfl rfl (by decide +kernel) ⟨Nat.le_of_ble_eq_true rfl, Nat.le_of_ble_eq_true rfl⟩) (jv_pv hK hP hD [0, 1, 2, 3, 4, 5, 6, 7, 8, 9] rfl (by decide) rfl (va_recv hK hP (ci := 6) (q0 := 0) rfl rfl)) rfl rfl hl.1 rfl (lv_room (Nat.le_of_ble_eq_true rfl)) dd_M_finish_39 ⟨Nat.le_of_ble_eq_true rfl, Nat.le_of_ble_eq_true rfl⟩) ?_
  obtain ⟨o_42, ho_42, hF⟩ := jv_bi hF
  refine jv_mv (wr := []) (w1 := [(h0, .inr (6, [.int bg, .ref h1, .ref h2, .ref h3, .ref h4, .ref h5, .ref h6, .ref h7, .int o_42.1, .ref h8, .int mt, .int en, .int sx, .int pl, .int ov, .int tk, .ref h9])), (h1, .inl (cC, 6, .inl na)), (h2, .inl (cI, 2, .inl cu)), (h3, .inl (cI, 48, .inl pa)), (h4, .inl (cI, 48, .inl re)), (h5, .inl (cZ, 48, .inl cl)), (h6, .inl (cI, 48, .inl si)), (h7, .inl (cC, 288, .inl lt)), (h8, .inl (cC, 3000, .inl o_42.2)), (h9, .inl (cC, 6, .inl rd))]) (va_runV (C := cn_M) (As := [.int x1, .int o_39]) (rest := []) ⟨hx, hb, hml, hown, ht⟩ (c_M_addVerdict l dC dI cI cL cC cZ h0 h1 h2 h3 h4 h5 h6 h7 h8 h9 H_19.size bg o_31.1 mt en sx pl ov tk na cu pa re cl si lt o_31.2 rd x1 o_39 _ ho_42) (cwV 2 ht (gi_V tw_3_201 tw_3_203 tw_p_26 tw_1_4 tw_3_204) rfl rfl rfl (by decide +kernel) ⟨Nat.le_of_ble_eq_true rfl, Nat.le_of_ble_eq_true rfl⟩) (jv_pv hK hP hD [0, 1, 2, 3, 4, 5, 6, 7, 8, 9] rfl (by decide) rfl (va_recv hK hP (ci := 6) (q0 := 0) rfl rfl)) rfl rfl hl.1 rfl (lv_room (Nat.le_of_ble_eq_true rfl)) dd_M_finish_42 ⟨Nat.le_of_ble_eq_true rfl, Nat.le_of_ble_eq_true rfl⟩) hP hD hS hA [0, 1, 2, 3, 4, 5, 6, 7, 8, 9] [] rfl rfl (by decide) (by decide) (fun H_21 locs_22 hP hD hS => ?_)
  have hP : va_P (dC, dI) vwCl [(h0, .inr (6, [.int bg, .ref h1, .ref h2, .ref h3, .ref h4, .ref h5, .ref h6, .ref h7, .int o_42.1, .ref h8, .int mt, .int en, .int sx, .int pl, .int ov, .int tk, .ref h9])), (h1, .inl (cC, 6, .inl na)), (h2, .inl (cI, 2, .inl cu)), (h3, .inl (cI, 48, .inl pa)), (h4, .inl (cI, 48, .inl re)), (h5, .inl (cZ, 48, .inl cl)), (h6, .inl (cI, 48, .inl si)), (h7, .inl (cC, 288, .inl lt)), (h8, .inl (cC, 3000, .inl o_42.2)), (h9, .inl (cC, 6, .inl rd))] H_21 := hP.sub [0, 1, 2, 3, 4, 5, 6, 7, 8, 9] rfl
  have hD : va_D A [(h0, .inr (6, [.int bg, .ref h1, .ref h2, .ref h3, .ref h4, .ref h5, .ref h6, .ref h7, .int o_42.1, .ref h8, .int mt, .int en, .int sx, .int pl, .int ov, .int tk, .ref h9])), (h1, .inl (cC, 6, .inl na)), (h2, .inl (cI, 2, .inl cu)), (h3, .inl (cI, 48, .inl pa)), (h4, .inl (cI, 48, .inl re)), (h5, .inl (cZ, 48, .inl cl)), (h6, .inl (cI, 48, .inl si)), (h7, .inl (cC, 288, .inl lt)), (h8, .inl (cC, 3000, .inl o_42.2)), (h9, .inl (cC, 6, .inl rd))] := hD.sub [0, 1, 2, 3, 4, 5, 6, 7, 8, 9] (by decide) rfl
  refine lv_aload_n hx hb dd_M_finish_45 rfl (lv_at hl 0 rfl) ?_
  refine lv_bipush (v := 10) hx hb dd_M_finish_46 (by decide) ?_
  obtain ⟨o_48, ho_48, hF⟩ := jv_bi hF
  refine jv_mv (wr := []) (w1 := [(h0, .inr (6, [.int bg, .ref h1, .ref h2, .ref h3, .ref h4, .ref h5, .ref h6, .ref h7, .int o_48.1, .ref h8, .int mt, .int en, .int sx, .int pl, .int ov, .int tk, .ref h9])), (h1, .inl (cC, 6, .inl na)), (h2, .inl (cI, 2, .inl cu)), (h3, .inl (cI, 48, .inl pa)), (h4, .inl (cI, 48, .inl re)), (h5, .inl (cZ, 48, .inl cl)), (h6, .inl (cI, 48, .inl si)), (h7, .inl (cC, 288, .inl lt)), (h8, .inl (cC, 3000, .inl o_48.2)), (h9, .inl (cC, 6, .inl rd))]) (va_runV (C := cn_M) (As := [.int 10]) (rest := []) ⟨hx, hb, hml, hown, ht⟩ (c_M_add l dC dI cI cL cC cZ h0 h1 h2 h3 h4 h5 h6 h7 h8 h9 H_21.size bg o_42.1 mt en sx pl ov tk na cu pa re cl si lt o_42.2 rd 10 _ ho_48) (cwV 1 ht (gi_V tw_3_181 tw_3_183 tw_p_21 tw_1_4 tw_3_184) rfl rfl rfl (by decide +kernel) ⟨Nat.le_of_ble_eq_true rfl, Nat.le_of_ble_eq_true rfl⟩) (jv_pv hK hP hD [0, 1, 2, 3, 4, 5, 6, 7, 8, 9] rfl (by decide) rfl (va_recv hK hP (ci := 6) (q0 := 0) rfl rfl)) rfl rfl hl.1 rfl (lv_room (Nat.le_of_ble_eq_true rfl)) dd_M_finish_48 ⟨Nat.le_of_ble_eq_true rfl, Nat.le_of_ble_eq_true rfl⟩) hP hD hS hA [0, 1, 2, 3, 4, 5, 6, 7, 8, 9] [] rfl rfl (by decide) (by decide) (fun H_23 locs_24 hP hD hS => ?_)
  have hP : va_P (dC, dI) vwCl [(h0, .inr (6, [.int bg, .ref h1, .ref h2, .ref h3, .ref h4, .ref h5, .ref h6, .ref h7, .int o_48.1, .ref h8, .int mt, .int en, .int sx, .int pl, .int ov, .int tk, .ref h9])), (h1, .inl (cC, 6, .inl na)), (h2, .inl (cI, 2, .inl cu)), (h3, .inl (cI, 48, .inl pa)), (h4, .inl (cI, 48, .inl re)), (h5, .inl (cZ, 48, .inl cl)), (h6, .inl (cI, 48, .inl si)), (h7, .inl (cC, 288, .inl lt)), (h8, .inl (cC, 3000, .inl o_48.2)), (h9, .inl (cC, 6, .inl rd))] H_23 := hP.sub [0, 1, 2, 3, 4, 5, 6, 7, 8, 9] rfl
  have hD : va_D A [(h0, .inr (6, [.int bg, .ref h1, .ref h2, .ref h3, .ref h4, .ref h5, .ref h6, .ref h7, .int o_48.1, .ref h8, .int mt, .int en, .int sx, .int pl, .int ov, .int tk, .ref h9])), (h1, .inl (cC, 6, .inl na)), (h2, .inl (cI, 2, .inl cu)), (h3, .inl (cI, 48, .inl pa)), (h4, .inl (cI, 48, .inl re)), (h5, .inl (cZ, 48, .inl cl)), (h6, .inl (cI, 48, .inl si)), (h7, .inl (cC, 288, .inl lt)), (h8, .inl (cC, 3000, .inl o_48.2)), (h9, .inl (cC, 6, .inl rd))] := hD.sub [0, 1, 2, 3, 4, 5, 6, 7, 8, 9] (by decide) rfl
  subst hQ
  obtain rfl := Option.some.inj hF
  exact W.vret hx hb hr (fun t ht hW => ⟨⟨(), rfl, trivial, by rw [ht]; exact hP, va_K.moved hW.alike hK, hD⟩, hS.F ht⟩) hS.2.2 dd_M_finish_51
set_option maxHeartbeats 40000000 in
set_option maxRecDepth 100000 in
theorem c_M_write (l : Launch) (dC : Nat → ClassId) (dI : Nat → Nat → Nat) (cI cL cC cZ : ClassId) (h0 h1 h2 h3 h4 h5 h6 h7 h8 h9 : Nat) (sz : Nat) (bg : Int32) (ln : Int32) (mt : Int32) (en : Int32) (sx : Int32) (pl : Int32) (ov : Int32) (tk : Int32) (na : Nat → Int32) (cu : Nat → Int32) (pa : Nat → Int32) (re : Nat → Int32) (cl : Nat → Int32) (si : Nat → Int32) (lt : Nat → Int32) (pg : Nat → Int32) (rd : Nat → Int32)  (out : Int32 × Int32 × (Nat → Int32)) (hF : fn_M_write cu pa re cl si lt ln pg = some out) : Met l yy_M_write ws_M_write { frames := 5, cells := 0, slots := 0, locals := 109 } (mP_ (dC, dI) (tk_ cI cL cC cZ) [(h0, .inr (6, [.int bg, .ref h1, .ref h2, .ref h3, .ref h4, .ref h5, .ref h6, .ref h7, .int ln, .ref h8, .int mt, .int en, .int sx, .int pl, .int ov, .int tk, .ref h9])), (h1, .inl (cC, 6, .inl na)), (h2, .inl (cI, 2, .inl cu)), (h3, .inl (cI, 48, .inl pa)), (h4, .inl (cI, 48, .inl re)), (h5, .inl (cZ, 48, .inl cl)), (h6, .inl (cI, 48, .inl si)), (h7, .inl (cC, 288, .inl lt)), (h8, .inl (cC, 3000, .inl pg)), (h9, .inl (cC, 6, .inl rd))] sz [.ref h0]) (va_Qi (fun r (_ : Unit) => r = out.1) (mB_ (dC, dI) (tk_ cI cL cC cZ) [(h0, .inr (6, [.int bg, .ref h1, .ref h2, .ref h3, .ref h4, .ref h5, .ref h6, .ref h7, .int out.2.1, .ref h8, .int mt, .int en, .int sx, .int pl, .int ov, .int tk, .ref h9])), (h1, .inl (cC, 6, .inl na)), (h2, .inl (cI, 2, .inl cu)), (h3, .inl (cI, 48, .inl pa)), (h4, .inl (cI, 48, .inl re)), (h5, .inl (cZ, 48, .inl cl)), (h6, .inl (cI, 48, .inl si)), (h7, .inl (cC, 288, .inl lt)), (h8, .inl (cC, 3000, .inl out.2.2)), (h9, .inl (cC, 6, .inl rd))] (va_A [(h0, .inr (6, [.int bg, .ref h1, .ref h2, .ref h3, .ref h4, .ref h5, .ref h6, .ref h7, .int ln, .ref h8, .int mt, .int en, .int sx, .int pl, .int ov, .int tk, .ref h9])), (h1, .inl (cC, 6, .inl na)), (h2, .inl (cI, 2, .inl cu)), (h3, .inl (cI, 48, .inl pa)), (h4, .inl (cI, 48, .inl re)), (h5, .inl (cZ, 48, .inl cl)), (h6, .inl (cI, 48, .inl si)), (h7, .inl (cC, 288, .inl lt)), (h8, .inl (cC, 3000, .inl pg)), (h9, .inl (cC, 6, .inl rd))] sz)) (va_A [(h0, .inr (6, [.int bg, .ref h1, .ref h2, .ref h3, .ref h4, .ref h5, .ref h6, .ref h7, .int ln, .ref h8, .int mt, .int en, .int sx, .int pl, .int ov, .int tk, .ref h9])), (h1, .inl (cC, 6, .inl na)), (h2, .inl (cI, 2, .inl cu)), (h3, .inl (cI, 48, .inl pa)), (h4, .inl (cI, 48, .inl re)), (h5, .inl (cZ, 48, .inl cl)), (h6, .inl (cI, 48, .inl si)), (h7, .inl (cC, 288, .inl lt)), (h8, .inl (cC, 3000, .inl pg)), (h9, .inl (cC, 6, .inl rd))] sz)) 0 0 (va_A [(h0, .inr (6, [.int bg, .ref h1, .ref h2, .ref h3, .ref h4, .ref h5, .ref h6, .ref h7, .int ln, .ref h8, .int mt, .int en, .int sx, .int pl, .int ov, .int tk, .ref h9])), (h1, .inl (cC, 6, .inl na)), (h2, .inl (cI, 2, .inl cu)), (h3, .inl (cI, 48, .inl pa)), (h4, .inl (cI, 48, .inl re)), (h5, .inl (cZ, 48, .inl cl)), (h6, .inl (cI, 48, .inl si)), (h7, .inl (cC, 288, .inl lt)), (h8, .inl (cC, 3000, .inl pg)), (h9, .inl (cC, 6, .inl rd))] sz) := by
  refine Met.ofW (cc := cc_M_write) (maxL := 3) (ret := (some .int)) (by decide) rfl ?_
  intro p e s m args below meth c s₁ B hml hv
  obtain ⟨hargs, hsz, hP, hK, hD0⟩ := hv
  have hx := B.exec
  have hb := B.bytes
  have hr := B.returns
  have hts := atoms_spec (ws := ws_M_write) B.pre
  have ht : ∀ w ∈ TB_, w.before args s = true := fun w h => hts w (List.mem_cons_of_mem _ h)
  have hown : s.vm.findClass cn_M = some m.cls := findClass_of_methodNamed B.named
  have hlocks := B.notSynchronized
  subst hsz
  have hD := hD0.self (sz := s.heap.size)
  generalize hAe : va_A [(h0, .inr (6, [.int bg, .ref h1, .ref h2, .ref h3, .ref h4, .ref h5, .ref h6, .ref h7, .int ln, .ref h8, .int mt, .int en, .int sx, .int pl, .int ov, .int tk, .ref h9])), (h1, .inl (cC, 6, .inl na)), (h2, .inl (cI, 2, .inl cu)), (h3, .inl (cI, 48, .inl pa)), (h4, .inl (cI, 48, .inl re)), (h5, .inl (cZ, 48, .inl cl)), (h6, .inl (cI, 48, .inl si)), (h7, .inl (cC, 288, .inl lt)), (h8, .inl (cC, 3000, .inl pg)), (h9, .inl (cC, 6, .inl rd))] s.heap.size = A at hD ⊢
  have hA : ∀ q : Nat, s.heap.size ≤ q → A q := fun q h => by rw [← hAe]; exact Or.inr h
  have hS : va_S A s.heap s.heap [] := va_S.rf
  have hP : va_P (dC, dI) vwCl [(h0, .inr (6, [.int bg, .ref h1, .ref h2, .ref h3, .ref h4, .ref h5, .ref h6, .ref h7, .int ln, .ref h8, .int mt, .int en, .int sx, .int pl, .int ov, .int tk, .ref h9])), (h1, .inl (cC, 6, .inl na)), (h2, .inl (cI, 2, .inl cu)), (h3, .inl (cI, 48, .inl pa)), (h4, .inl (cI, 48, .inl re)), (h5, .inl (cZ, 48, .inl cl)), (h6, .inl (cI, 48, .inl si)), (h7, .inl (cC, 288, .inl lt)), (h8, .inl (cC, 3000, .inl pg)), (h9, .inl (cC, 6, .inl rd))] s.heap := hP
  have hl := lv_entry [.ref h0] (n := 3) (Nat.le_of_ble_eq_true rfl)
  have he : entryFrame m args 3 = _ := (congrArg (fun a => entryFrame m a 3) hargs).trans (lg_entry_eq m [.ref h0] 3)
  rw [he]
  generalize (lg_sl [.ref h0] ++ List.replicate (3 - (lg_sl [.ref h0]).length) Slot.unset).toArray = ls at hl ⊢
  have hl : lv_has ls 3 [(0, .ref h0)] := hl
  generalize hQ : MQ below _ args s _ _ _ = Q
  have bl203 : ∀ (ln : Int32) (pg : Nat → Int32), fb_M_write_203 cu pa re cl si lt  ln pg = some out → ∀ (H : Heap) (locs : List Loc), va_P (dC, dI) vwCl [(h0, .inr (6, [.int bg, .ref h1, .ref h2, .ref h3, .ref h4, .ref h5, .ref h6, .ref h7, .int ln, .ref h8, .int mt, .int en, .int sx, .int pl, .int ov, .int tk, .ref h9])), (h1, .inl (cC, 6, .inl na)), (h2, .inl (cI, 2, .inl cu)), (h3, .inl (cI, 48, .inl pa)), (h4, .inl (cI, 48, .inl re)), (h5, .inl (cZ, 48, .inl cl)), (h6, .inl (cI, 48, .inl si)), (h7, .inl (cC, 288, .inl lt)), (h8, .inl (cC, 3000, .inl pg)), (h9, .inl (cC, 6, .inl rd))] H → va_D A [(h0, .inr (6, [.int bg, .ref h1, .ref h2, .ref h3, .ref h4, .ref h5, .ref h6, .ref h7, .int ln, .ref h8, .int mt, .int en, .int sx, .int pl, .int ov, .int tk, .ref h9])), (h1, .inl (cC, 6, .inl na)), (h2, .inl (cI, 2, .inl cu)), (h3, .inl (cI, 48, .inl pa)), (h4, .inl (cI, 48, .inl re)), (h5, .inl (cZ, 48, .inl cl)), (h6, .inl (cI, 48, .inl si)), (h7, .inl (cC, 288, .inl lt)), (h8, .inl (cC, 3000, .inl pg)), (h9, .inl (cC, 6, .inl rd))] → va_S A s.heap H locs → ∀ ls : Array Slot, lv_has ls 3 [(0, .ref h0)] → W p l e (headSpec ws_M_write { frames := 5, cells := 0, slots := 0, locals := 109 }).room s m args below meth c H locs 0 0 Q (F0 m 203 ls []) := by
    intro ln pg hF H locs hP hD hS ls hl
    unfold fb_M_write_203 at hF
    refine lv_aload_n hx hb dd_M_write_203 rfl (lv_at hl 0 rfl) ?_
    refine lv_bipush (v := 10) hx hb dd_M_write_204 (by decide) ?_
    obtain ⟨o_206, ho_206, hF⟩ := jv_bi hF
    refine jv_mv (wr := []) (w1 := [(h0, .inr (6, [.int bg, .ref h1, .ref h2, .ref h3, .ref h4, .ref h5, .ref h6, .ref h7, .int o_206.1, .ref h8, .int mt, .int en, .int sx, .int pl, .int ov, .int tk, .ref h9])), (h1, .inl (cC, 6, .inl na)), (h2, .inl (cI, 2, .inl cu)), (h3, .inl (cI, 48, .inl pa)), (h4, .inl (cI, 48, .inl re)), (h5, .inl (cZ, 48, .inl cl)), (h6, .inl (cI, 48, .inl si)), (h7, .inl (cC, 288, .inl lt)), (h8, .inl (cC, 3000, .inl o_206.2)), (h9, .inl (cC, 6, .inl rd))]) (va_runV (C := cn_M) (As := [.int 10]) (rest := []) ⟨hx, hb, hml, hown, ht⟩ (c_M_add l dC dI cI cL cC cZ h0 h1 h2 h3 h4 h5 h6 h7 h8 h9 H.size bg ln mt en sx pl ov tk na cu pa re cl si lt pg rd 10 _ ho_206) (cwV 1 ht (gi_V tw_3_181 tw_3_183 tw_p_21 tw_1_4 tw_3_184) rfl rfl rfl (by decide +kernel) ⟨Nat.le_of_ble_eq_true rfl, Nat.le_of_ble_eq_true rfl⟩) (jv_pv hK hP hD [0, 1, 2, 3, 4, 5, 6, 7, 8, 9] rfl (by decide) rfl (va_recv hK hP (ci := 6) (q0 := 0) rfl rfl)) rfl rfl hl.1 rfl (lv_room (Nat.le_of_ble_eq_true rfl)) dd_M_write_206 ⟨Nat.le_of_ble_eq_true rfl, Nat.le_of_ble_eq_true rfl⟩) hP hD hS hA [0, 1, 2, 3, 4, 5, 6, 7, 8, 9] [] rfl rfl (by decide) (by decide) (fun H_52 locs_53 hP hD hS => ?_)
    have hP : va_P (dC, dI) vwCl [(h0, .inr (6, [.int bg, .ref h1, .ref h2, .ref h3, .ref h4, .ref h5, .ref h6, .ref h7, .int o_206.1, .ref h8, .int mt, .int en, .int sx, .int pl, .int ov, .int tk, .ref h9])), (h1, .inl (cC, 6, .inl na)), (h2, .inl (cI, 2, .inl cu)), (h3, .inl (cI, 48, .inl pa)), (h4, .inl (cI, 48, .inl re)), (h5, .inl (cZ, 48, .inl cl)), (h6, .inl (cI, 48, .inl si)), (h7, .inl (cC, 288, .inl lt)), (h8, .inl (cC, 3000, .inl o_206.2)), (h9, .inl (cC, 6, .inl rd))] H_52 := hP.sub [0, 1, 2, 3, 4, 5, 6, 7, 8, 9] rfl
    have hD : va_D A [(h0, .inr (6, [.int bg, .ref h1, .ref h2, .ref h3, .ref h4, .ref h5, .ref h6, .ref h7, .int o_206.1, .ref h8, .int mt, .int en, .int sx, .int pl, .int ov, .int tk, .ref h9])), (h1, .inl (cC, 6, .inl na)), (h2, .inl (cI, 2, .inl cu)), (h3, .inl (cI, 48, .inl pa)), (h4, .inl (cI, 48, .inl re)), (h5, .inl (cZ, 48, .inl cl)), (h6, .inl (cI, 48, .inl si)), (h7, .inl (cC, 288, .inl lt)), (h8, .inl (cC, 3000, .inl o_206.2)), (h9, .inl (cC, 6, .inl rd))] := hD.sub [0, 1, 2, 3, 4, 5, 6, 7, 8, 9] (by decide) rfl
    refine lv_aload_n hx hb dd_M_write_209 rfl (lv_at hl 0 rfl) ?_
    refine va_get (D := (dC, dI)) (ci := 6) (v := .int o_206.1) (C := cn_M) (T := tt_M) (N := 17) hx hb ht in_M hown hK hP 0 rfl rfl 8 (by decide) (ht _ tw_3_49) (fun _ h9 => h9) rfl dd_M_write_210 ?_
    subst hQ
    obtain rfl := Option.some.inj hF
    exact W.iret (v := o_206.1) hx hb hr (fun t ht hW => ⟨⟨o_206.1, (), rfl, rfl, by rw [ht]; exact hP, va_K.moved hW.alike hK, hD⟩, hS.F ht⟩) hS.2.2 dd_M_write_213
  have bl174 : ∀ (ln : Int32) (pg : Nat → Int32) (x1 : Int32), fb_M_write_174 cu pa re cl si lt  ln pg x1 = some out → ∀ (H : Heap) (locs : List Loc), va_P (dC, dI) vwCl [(h0, .inr (6, [.int bg, .ref h1, .ref h2, .ref h3, .ref h4, .ref h5, .ref h6, .ref h7, .int ln, .ref h8, .int mt, .int en, .int sx, .int pl, .int ov, .int tk, .ref h9])), (h1, .inl (cC, 6, .inl na)), (h2, .inl (cI, 2, .inl cu)), (h3, .inl (cI, 48, .inl pa)), (h4, .inl (cI, 48, .inl re)), (h5, .inl (cZ, 48, .inl cl)), (h6, .inl (cI, 48, .inl si)), (h7, .inl (cC, 288, .inl lt)), (h8, .inl (cC, 3000, .inl pg)), (h9, .inl (cC, 6, .inl rd))] H → va_D A [(h0, .inr (6, [.int bg, .ref h1, .ref h2, .ref h3, .ref h4, .ref h5, .ref h6, .ref h7, .int ln, .ref h8, .int mt, .int en, .int sx, .int pl, .int ov, .int tk, .ref h9])), (h1, .inl (cC, 6, .inl na)), (h2, .inl (cI, 2, .inl cu)), (h3, .inl (cI, 48, .inl pa)), (h4, .inl (cI, 48, .inl re)), (h5, .inl (cZ, 48, .inl cl)), (h6, .inl (cI, 48, .inl si)), (h7, .inl (cC, 288, .inl lt)), (h8, .inl (cC, 3000, .inl pg)), (h9, .inl (cC, 6, .inl rd))] → va_S A s.heap H locs → ∀ ls : Array Slot, lv_has ls 3 [(0, .ref h0), (1, .int x1)] → W p l e (headSpec ws_M_write { frames := 5, cells := 0, slots := 0, locals := 109 }).room s m args below meth c H locs 0 0 Q (F0 m 174 ls []) := by
    intro ln pg x1 hF H locs hP hD hS ls hl
    unfold fb_M_write_174 at hF
    refine lv_iload_n hx hb dd_M_write_174 rfl (lv_at hl 1 rfl) ?_
    refine lv_if_ge (tgt := 197) hx hb dd_M_write_175 (by decide) (fun c_54 => ?_) (fun c_54 => ?_)
    · have hF := jv_t c_54 hF
      refine lv_aload_n hx hb dd_M_write_197 rfl (lv_at hl 0 rfl) ?_
      refine lv_bipush (v := 8) hx hb dd_M_write_198 (by decide) ?_
      obtain ⟨o_200, ho_200, hF⟩ := jv_bi hF
      refine jv_mv (wr := []) (w1 := [(h0, .inr (6, [.int bg, .ref h1, .ref h2, .ref h3, .ref h4, .ref h5, .ref h6, .ref h7, .int o_200.1, .ref h8, .int mt, .int en, .int sx, .int pl, .int ov, .int tk, .ref h9])), (h1, .inl (cC, 6, .inl na)), (h2, .inl (cI, 2, .inl cu)), (h3, .inl (cI, 48, .inl pa)), (h4, .inl (cI, 48, .inl re)), (h5, .inl (cZ, 48, .inl cl)), (h6, .inl (cI, 48, .inl si)), (h7, .inl (cC, 288, .inl lt)), (h8, .inl (cC, 3000, .inl o_200.2)), (h9, .inl (cC, 6, .inl rd))]) (va_runV (C := cn_M) (As := [.int 8]) (rest := []) ⟨hx, hb, hml, hown, ht⟩ (c_M_addText l dC dI cI cL cC cZ h0 h1 h2 h3 h4 h5 h6 h7 h8 h9 H.size bg ln mt en sx pl ov tk na cu pa re cl si lt pg rd 8 _ ho_200) (cwV 1 ht (gi_V tw_3_158 tw_3_160 tw_p_20 tw_1_4 tw_3_161) rfl rfl rfl (by decide +kernel) ⟨Nat.le_of_ble_eq_true rfl, Nat.le_of_ble_eq_true rfl⟩) (jv_pv hK hP hD [0, 1, 2, 3, 4, 5, 6, 7, 8, 9] rfl (by decide) rfl (va_recv hK hP (ci := 6) (q0 := 0) rfl rfl)) rfl rfl hl.1 rfl (lv_room (Nat.le_of_ble_eq_true rfl)) dd_M_write_200 ⟨Nat.le_of_ble_eq_true rfl, Nat.le_of_ble_eq_true rfl⟩) hP hD hS hA [0, 1, 2, 3, 4, 5, 6, 7, 8, 9] [] rfl rfl (by decide) (by decide) (fun H_55 locs_56 hP hD hS => ?_)
      have hP : va_P (dC, dI) vwCl [(h0, .inr (6, [.int bg, .ref h1, .ref h2, .ref h3, .ref h4, .ref h5, .ref h6, .ref h7, .int o_200.1, .ref h8, .int mt, .int en, .int sx, .int pl, .int ov, .int tk, .ref h9])), (h1, .inl (cC, 6, .inl na)), (h2, .inl (cI, 2, .inl cu)), (h3, .inl (cI, 48, .inl pa)), (h4, .inl (cI, 48, .inl re)), (h5, .inl (cZ, 48, .inl cl)), (h6, .inl (cI, 48, .inl si)), (h7, .inl (cC, 288, .inl lt)), (h8, .inl (cC, 3000, .inl o_200.2)), (h9, .inl (cC, 6, .inl rd))] H_55 := hP.sub [0, 1, 2, 3, 4, 5, 6, 7, 8, 9] rfl
      have hD : va_D A [(h0, .inr (6, [.int bg, .ref h1, .ref h2, .ref h3, .ref h4, .ref h5, .ref h6, .ref h7, .int o_200.1, .ref h8, .int mt, .int en, .int sx, .int pl, .int ov, .int tk, .ref h9])), (h1, .inl (cC, 6, .inl na)), (h2, .inl (cI, 2, .inl cu)), (h3, .inl (cI, 48, .inl pa)), (h4, .inl (cI, 48, .inl re)), (h5, .inl (cZ, 48, .inl cl)), (h6, .inl (cI, 48, .inl si)), (h7, .inl (cC, 288, .inl lt)), (h8, .inl (cC, 3000, .inl o_200.2)), (h9, .inl (cC, 6, .inl rd))] := hD.sub [0, 1, 2, 3, 4, 5, 6, 7, 8, 9] (by decide) rfl
      exact bl203 o_200.1 o_200.2 hF H_55 locs_56 hP hD hS ls (lv_sub hl [0] rfl)
    · have hF := jv_f c_54 hF
      refine lv_aload_n hx hb dd_M_write_178 rfl (lv_at hl 0 rfl) ?_
      refine lv_bipush (v := 7) hx hb dd_M_write_179 (by decide) ?_
      obtain ⟨o_181, ho_181, hF⟩ := jv_bi hF
      refine jv_mv (wr := []) (w1 := [(h0, .inr (6, [.int bg, .ref h1, .ref h2, .ref h3, .ref h4, .ref h5, .ref h6, .ref h7, .int o_181.1, .ref h8, .int mt, .int en, .int sx, .int pl, .int ov, .int tk, .ref h9])), (h1, .inl (cC, 6, .inl na)), (h2, .inl (cI, 2, .inl cu)), (h3, .inl (cI, 48, .inl pa)), (h4, .inl (cI, 48, .inl re)), (h5, .inl (cZ, 48, .inl cl)), (h6, .inl (cI, 48, .inl si)), (h7, .inl (cC, 288, .inl lt)), (h8, .inl (cC, 3000, .inl o_181.2)), (h9, .inl (cC, 6, .inl rd))]) (va_runV (C := cn_M) (As := [.int 7]) (rest := []) ⟨hx, hb, hml, hown, ht⟩ (c_M_addText l dC dI cI cL cC cZ h0 h1 h2 h3 h4 h5 h6 h7 h8 h9 H.size bg ln mt en sx pl ov tk na cu pa re cl si lt pg rd 7 _ ho_181) (cwV 1 ht (gi_V tw_3_158 tw_3_160 tw_p_20 tw_1_4 tw_3_161) rfl rfl rfl (by decide +kernel) ⟨Nat.le_of_ble_eq_true rfl, Nat.le_of_ble_eq_true rfl⟩) (jv_pv hK hP hD [0, 1, 2, 3, 4, 5, 6, 7, 8, 9] rfl (by decide) rfl (va_recv hK hP (ci := 6) (q0 := 0) rfl rfl)) rfl rfl hl.1 rfl (lv_room (Nat.le_of_ble_eq_true rfl)) dd_M_write_181 ⟨Nat.le_of_ble_eq_true rfl, Nat.le_of_ble_eq_true rfl⟩) hP hD hS hA [0, 1, 2, 3, 4, 5, 6, 7, 8, 9] [] rfl rfl (by decide) (by decide) (fun H_57 locs_58 hP hD hS => ?_)
      have hP : va_P (dC, dI) vwCl [(h0, .inr (6, [.int bg, .ref h1, .ref h2, .ref h3, .ref h4, .ref h5, .ref h6, .ref h7, .int o_181.1, .ref h8, .int mt, .int en, .int sx, .int pl, .int ov, .int tk, .ref h9])), (h1, .inl (cC, 6, .inl na)), (h2, .inl (cI, 2, .inl cu)), (h3, .inl (cI, 48, .inl pa)), (h4, .inl (cI, 48, .inl re)), (h5, .inl (cZ, 48, .inl cl)), (h6, .inl (cI, 48, .inl si)), (h7, .inl (cC, 288, .inl lt)), (h8, .inl (cC, 3000, .inl o_181.2)), (h9, .inl (cC, 6, .inl rd))] H_57 := hP.sub [0, 1, 2, 3, 4, 5, 6, 7, 8, 9] rfl
      have hD : va_D A [(h0, .inr (6, [.int bg, .ref h1, .ref h2, .ref h3, .ref h4, .ref h5, .ref h6, .ref h7, .int o_181.1, .ref h8, .int mt, .int en, .int sx, .int pl, .int ov, .int tk, .ref h9])), (h1, .inl (cC, 6, .inl na)), (h2, .inl (cI, 2, .inl cu)), (h3, .inl (cI, 48, .inl pa)), (h4, .inl (cI, 48, .inl re)), (h5, .inl (cZ, 48, .inl cl)), (h6, .inl (cI, 48, .inl si)), (h7, .inl (cC, 288, .inl lt)), (h8, .inl (cC, 3000, .inl o_181.2)), (h9, .inl (cC, 6, .inl rd))] := hD.sub [0, 1, 2, 3, 4, 5, 6, 7, 8, 9] (by decide) rfl
      refine lv_aload_n hx hb dd_M_write_184 rfl (lv_at hl 0 rfl) ?_
      refine lv_aload_n hx hb dd_M_write_185 rfl (lv_at hl 0 rfl) ?_
      refine lv_iconst (v := 0) hx hb dd_M_write_186 (by decide) ?_
      refine lv_iconst (v := (-1)) hx hb dd_M_write_187 (by decide) ?_
      obtain ⟨o_188, ho_188, hF⟩ := jv_bi hF
      refine jv_ci (va_runV (C := cn_M) (As := [.int 0, .int (-1)]) (rest := [.ref h0]) ⟨hx, hb, hml, hown, ht⟩ (c_M_rowSize l dC dI cI cL cC cZ h0 h1 h2 h3 h4 h5 h6 h7 h8 h9 H_57.size bg o_181.1 mt en sx pl ov tk na cu pa re cl si lt o_181.2 rd 0 (-1) _ ho_188) (cwV 2 ht (gi_V tw_3_193 tw_3_195 tw_p_24 tw_1_4 tw_3_196) rfl rfl rfl (by decide +kernel) ⟨Nat.le_of_ble_eq_true rfl, Nat.le_of_ble_eq_true rfl⟩) (jv_pv hK hP hD [0, 1, 2, 3, 4, 5, 6, 7, 8, 9] rfl (by decide) rfl (va_recv hK hP (ci := 6) (q0 := 0) rfl rfl)) rfl rfl hl.1 rfl (lv_room (Nat.le_of_ble_eq_true rfl)) dd_M_write_188 ⟨Nat.le_of_ble_eq_true rfl, Nat.le_of_ble_eq_true rfl⟩) ?_
      obtain ⟨o_191, ho_191, hF⟩ := jv_bi hF
      refine jv_mv (wr := []) (w1 := [(h0, .inr (6, [.int bg, .ref h1, .ref h2, .ref h3, .ref h4, .ref h5, .ref h6, .ref h7, .int o_191.1, .ref h8, .int mt, .int en, .int sx, .int pl, .int ov, .int tk, .ref h9])), (h1, .inl (cC, 6, .inl na)), (h2, .inl (cI, 2, .inl cu)), (h3, .inl (cI, 48, .inl pa)), (h4, .inl (cI, 48, .inl re)), (h5, .inl (cZ, 48, .inl cl)), (h6, .inl (cI, 48, .inl si)), (h7, .inl (cC, 288, .inl lt)), (h8, .inl (cC, 3000, .inl o_191.2)), (h9, .inl (cC, 6, .inl rd))]) (va_runV (C := cn_M) (As := [.int o_188]) (rest := []) ⟨hx, hb, hml, hown, ht⟩ (c_M_addNumber l dC dI cI cL cC cZ h0 h1 h2 h3 h4 h5 h6 h7 h8 h9 H_57.size bg o_181.1 mt en sx pl ov tk na cu pa re cl si lt o_181.2 rd o_188 _ ho_191) (cwV 1 ht (gi_V tw_3_197 tw_3_199 tw_p_25 tw_1_4 tw_3_200) rfl rfl rfl (by decide +kernel) ⟨Nat.le_of_ble_eq_true rfl, Nat.le_of_ble_eq_true rfl⟩) (jv_pv hK hP hD [0, 1, 2, 3, 4, 5, 6, 7, 8, 9] rfl (by decide) rfl (va_recv hK hP (ci := 6) (q0 := 0) rfl rfl)) rfl rfl hl.1 rfl (lv_room (Nat.le_of_ble_eq_true rfl)) dd_M_write_191 ⟨Nat.le_of_ble_eq_true rfl, Nat.le_of_ble_eq_true rfl⟩) hP hD hS hA [0, 1, 2, 3, 4, 5, 6, 7, 8, 9] [] rfl rfl (by decide) (by decide) (fun H_59 locs_60 hP hD hS => ?_)
      have hP : va_P (dC, dI) vwCl [(h0, .inr (6, [.int bg, .ref h1, .ref h2, .ref h3, .ref h4, .ref h5, .ref h6, .ref h7, .int o_191.1, .ref h8, .int mt, .int en, .int sx, .int pl, .int ov, .int tk, .ref h9])), (h1, .inl (cC, 6, .inl na)), (h2, .inl (cI, 2, .inl cu)), (h3, .inl (cI, 48, .inl pa)), (h4, .inl (cI, 48, .inl re)), (h5, .inl (cZ, 48, .inl cl)), (h6, .inl (cI, 48, .inl si)), (h7, .inl (cC, 288, .inl lt)), (h8, .inl (cC, 3000, .inl o_191.2)), (h9, .inl (cC, 6, .inl rd))] H_59 := hP.sub [0, 1, 2, 3, 4, 5, 6, 7, 8, 9] rfl
      have hD : va_D A [(h0, .inr (6, [.int bg, .ref h1, .ref h2, .ref h3, .ref h4, .ref h5, .ref h6, .ref h7, .int o_191.1, .ref h8, .int mt, .int en, .int sx, .int pl, .int ov, .int tk, .ref h9])), (h1, .inl (cC, 6, .inl na)), (h2, .inl (cI, 2, .inl cu)), (h3, .inl (cI, 48, .inl pa)), (h4, .inl (cI, 48, .inl re)), (h5, .inl (cZ, 48, .inl cl)), (h6, .inl (cI, 48, .inl si)), (h7, .inl (cC, 288, .inl lt)), (h8, .inl (cC, 3000, .inl o_191.2)), (h9, .inl (cC, 6, .inl rd))] := hD.sub [0, 1, 2, 3, 4, 5, 6, 7, 8, 9] (by decide) rfl
      refine lv_goto (tgt := 203) hx hb dd_M_write_194 (by decide) ?_
      exact bl203 o_191.1 o_191.2 hF H_59 locs_60 hP hD hS ls (lv_sub hl [0] rfl)
  have lp146 : ∀ (n146 : Nat), ∀ (ln : Int32) (pg : Nat → Int32) (x1 : Int32), fl_M_write_146 cu pa re cl si lt  n146 (ln, pg, x1) = some out → ∀ (H : Heap) (locs : List Loc), va_P (dC, dI) vwCl [(h0, .inr (6, [.int bg, .ref h1, .ref h2, .ref h3, .ref h4, .ref h5, .ref h6, .ref h7, .int ln, .ref h8, .int mt, .int en, .int sx, .int pl, .int ov, .int tk, .ref h9])), (h1, .inl (cC, 6, .inl na)), (h2, .inl (cI, 2, .inl cu)), (h3, .inl (cI, 48, .inl pa)), (h4, .inl (cI, 48, .inl re)), (h5, .inl (cZ, 48, .inl cl)), (h6, .inl (cI, 48, .inl si)), (h7, .inl (cC, 288, .inl lt)), (h8, .inl (cC, 3000, .inl pg)), (h9, .inl (cC, 6, .inl rd))] H → va_D A [(h0, .inr (6, [.int bg, .ref h1, .ref h2, .ref h3, .ref h4, .ref h5, .ref h6, .ref h7, .int ln, .ref h8, .int mt, .int en, .int sx, .int pl, .int ov, .int tk, .ref h9])), (h1, .inl (cC, 6, .inl na)), (h2, .inl (cI, 2, .inl cu)), (h3, .inl (cI, 48, .inl pa)), (h4, .inl (cI, 48, .inl re)), (h5, .inl (cZ, 48, .inl cl)), (h6, .inl (cI, 48, .inl si)), (h7, .inl (cC, 288, .inl lt)), (h8, .inl (cC, 3000, .inl pg)), (h9, .inl (cC, 6, .inl rd))] → va_S A s.heap H locs → ∀ ls : Array Slot, lv_has ls 3 [(0, .ref h0), (1, .int x1)] → W p l e (headSpec ws_M_write { frames := 5, cells := 0, slots := 0, locals := 109 }).room s m args below meth c H locs 0 0 Q (F0 m 146 ls []) := by
    intro n146
    induction n146 with
    | zero =>
      intro ln pg x1 hF
      exact (jv_no hF).elim
    | succ n146 ih146 =>
      intro ln pg x1 hF H locs hP hD hS ls hl
      have hF : fb_M_write_146 cu pa re cl si lt  (fl_M_write_146 cu pa re cl si lt  n146) ln pg x1 = some out := hF
      unfold fb_M_write_146 at hF
      refine lv_iload_n hx hb dd_M_write_146 rfl (lv_at hl 1 rfl) ?_
      refine lv_if_lt (tgt := 174) hx hb dd_M_write_147 (by decide) (fun c_61 => ?_) (fun c_61 => ?_)
      · have hF := jv_t c_61 hF
        exact bl174 ln pg x1 hF H locs hP hD hS ls (lv_sub hl [0, 1] rfl)
      · have hF := jv_f c_61 hF
        refine lv_aload_n hx hb dd_M_write_150 rfl (lv_at hl 0 rfl) ?_
        refine va_get (D := (dC, dI)) (ci := 6) (v := .ref h5) (C := cn_M) (T := tt_M) (N := 17) hx hb ht in_M hown hK hP 0 rfl rfl 5 (by decide) (ht _ tw_3_46) (fun _ h9 => h9) rfl dd_M_write_151 ?_
        refine lv_iload_n hx hb dd_M_write_154 rfl (lv_at hl 1 rfl) ?_
        obtain ⟨g_62, hF⟩ := jv_gi hF
        refine va_zald hx hb hK hP 5 3 rfl rfl (jv_in g_62) dd_M_write_155 ?_
        refine lv_if_eq (tgt := 174) hx hb dd_M_write_156 (by decide) (fun c_63 => ?_) (fun c_63 => ?_)
        · have hF := jv_t c_63 hF
          exact bl174 ln pg x1 hF H locs hP hD hS ls (lv_sub hl [0, 1] rfl)
        · have hF := jv_f c_63 hF
          refine lv_aload_n hx hb dd_M_write_159 rfl (lv_at hl 0 rfl) ?_
          refine lv_iload_n hx hb dd_M_write_160 rfl (lv_at hl 1 rfl) ?_
          obtain ⟨o_161, ho_161, hF⟩ := jv_bi hF
          refine jv_mv (wr := []) (w1 := [(h0, .inr (6, [.int bg, .ref h1, .ref h2, .ref h3, .ref h4, .ref h5, .ref h6, .ref h7, .int o_161.1, .ref h8, .int mt, .int en, .int sx, .int pl, .int ov, .int tk, .ref h9])), (h1, .inl (cC, 6, .inl na)), (h2, .inl (cI, 2, .inl cu)), (h3, .inl (cI, 48, .inl pa)), (h4, .inl (cI, 48, .inl re)), (h5, .inl (cZ, 48, .inl cl)), (h6, .inl (cI, 48, .inl si)), (h7, .inl (cC, 288, .inl lt)), (h8, .inl (cC, 3000, .inl o_161.2)), (h9, .inl (cC, 6, .inl rd))]) (va_runV (C := cn_M) (As := [.int x1]) (rest := []) ⟨hx, hb, hml, hown, ht⟩ (c_M_finish l dC dI cI cL cC cZ h0 h1 h2 h3 h4 h5 h6 h7 h8 h9 H.size bg ln mt en sx pl ov tk na cu pa re cl si lt pg rd x1 _ ho_161) (cwV 1 ht (gi_V tw_3_185 tw_3_187 tw_p_22 tw_1_4 tw_3_188) rfl rfl rfl (by decide +kernel) ⟨Nat.le_of_ble_eq_true rfl, Nat.le_of_ble_eq_true rfl⟩) (jv_pv hK hP hD [0, 1, 2, 3, 4, 5, 6, 7, 8, 9] rfl (by decide) rfl (va_recv hK hP (ci := 6) (q0 := 0) rfl rfl)) rfl rfl hl.1 rfl (lv_room (Nat.le_of_ble_eq_true rfl)) dd_M_write_161 ⟨Nat.le_of_ble_eq_true rfl, Nat.le_of_ble_eq_true rfl⟩) hP hD hS hA [0, 1, 2, 3, 4, 5, 6, 7, 8, 9] [] rfl rfl (by decide) (by decide) (fun H_64 locs_65 hP hD hS => ?_)
          have hP : va_P (dC, dI) vwCl [(h0, .inr (6, [.int bg, .ref h1, .ref h2, .ref h3, .ref h4, .ref h5, .ref h6, .ref h7, .int o_161.1, .ref h8, .int mt, .int en, .int sx, .int pl, .int ov, .int tk, .ref h9])), (h1, .inl (cC, 6, .inl na)), (h2, .inl (cI, 2, .inl cu)), (h3, .inl (cI, 48, .inl pa)), (h4, .inl (cI, 48, .inl re)), (h5, .inl (cZ, 48, .inl cl)), (h6, .inl (cI, 48, .inl si)), (h7, .inl (cC, 288, .inl lt)), (h8, .inl (cC, 3000, .inl o_161.2)), (h9, .inl (cC, 6, .inl rd))] H_64 := hP.sub [0, 1, 2, 3, 4, 5, 6, 7, 8, 9] rfl
          have hD : va_D A [(h0, .inr (6, [.int bg, .ref h1, .ref h2, .ref h3, .ref h4, .ref h5, .ref h6, .ref h7, .int o_161.1, .ref h8, .int mt, .int en, .int sx, .int pl, .int ov, .int tk, .ref h9])), (h1, .inl (cC, 6, .inl na)), (h2, .inl (cI, 2, .inl cu)), (h3, .inl (cI, 48, .inl pa)), (h4, .inl (cI, 48, .inl re)), (h5, .inl (cZ, 48, .inl cl)), (h6, .inl (cI, 48, .inl si)), (h7, .inl (cC, 288, .inl lt)), (h8, .inl (cC, 3000, .inl o_161.2)), (h9, .inl (cC, 6, .inl rd))] := hD.sub [0, 1, 2, 3, 4, 5, 6, 7, 8, 9] (by decide) rfl
          refine lv_aload_n hx hb dd_M_write_164 rfl (lv_at hl 0 rfl) ?_
          refine va_get (D := (dC, dI)) (ci := 6) (v := .ref h3) (C := cn_M) (T := tt_M) (N := 17) hx hb ht in_M hown hK hP 0 rfl rfl 3 (by decide) (ht _ tw_3_44) (fun _ h9 => h9) rfl dd_M_write_165 ?_
          refine lv_iload_n hx hb dd_M_write_168 rfl (lv_at hl 1 rfl) ?_
          obtain ⟨g_66, hF⟩ := jv_gi hF
          refine va_iald hx hb hK hP 3 0 rfl rfl (jv_in g_66) dd_M_write_169 ?_
          refine lv_istore_n (lv' := [(1, .int (pa x1.toNatClampNeg)), (0, .ref h0)]) hx hb dd_M_write_170 rfl hl (by decide) rfl (fun ls hl => ?_)
          refine lv_goto (tgt := 146) hx hb dd_M_write_171 (by decide) ?_
          exact ih146 o_161.1 o_161.2 (pa x1.toNatClampNeg) hF H_64 locs_65 hP hD hS ls (lv_sub hl [1, 0] rfl)
  have lp20 : ∀ (n20 : Nat), ∀ (ln : Int32) (pg : Nat → Int32) (x1 : Int32) (x2 : Int32), fl_M_write_20 cu pa re cl si lt  n20 (ln, pg, x1, x2) = some out → ∀ (H : Heap) (locs : List Loc), va_P (dC, dI) vwCl [(h0, .inr (6, [.int bg, .ref h1, .ref h2, .ref h3, .ref h4, .ref h5, .ref h6, .ref h7, .int ln, .ref h8, .int mt, .int en, .int sx, .int pl, .int ov, .int tk, .ref h9])), (h1, .inl (cC, 6, .inl na)), (h2, .inl (cI, 2, .inl cu)), (h3, .inl (cI, 48, .inl pa)), (h4, .inl (cI, 48, .inl re)), (h5, .inl (cZ, 48, .inl cl)), (h6, .inl (cI, 48, .inl si)), (h7, .inl (cC, 288, .inl lt)), (h8, .inl (cC, 3000, .inl pg)), (h9, .inl (cC, 6, .inl rd))] H → va_D A [(h0, .inr (6, [.int bg, .ref h1, .ref h2, .ref h3, .ref h4, .ref h5, .ref h6, .ref h7, .int ln, .ref h8, .int mt, .int en, .int sx, .int pl, .int ov, .int tk, .ref h9])), (h1, .inl (cC, 6, .inl na)), (h2, .inl (cI, 2, .inl cu)), (h3, .inl (cI, 48, .inl pa)), (h4, .inl (cI, 48, .inl re)), (h5, .inl (cZ, 48, .inl cl)), (h6, .inl (cI, 48, .inl si)), (h7, .inl (cC, 288, .inl lt)), (h8, .inl (cC, 3000, .inl pg)), (h9, .inl (cC, 6, .inl rd))] → va_S A s.heap H locs → ∀ ls : Array Slot, lv_has ls 3 [(0, .ref h0), (1, .int x1), (2, .int x2)] → W p l e (headSpec ws_M_write { frames := 5, cells := 0, slots := 0, locals := 109 }).room s m args below meth c H locs 0 0 Q (F0 m 20 ls []) := by
    intro n20
    induction n20 with
    | zero =>
      intro ln pg x1 x2 hF
      exact (jv_no hF).elim
    | succ n20 ih20 =>
      have bl109 : ∀ (ln : Int32) (pg : Nat → Int32) (x1 : Int32) (x2 : Int32) (y1 : Int32) (y2 : Int32), fb_M_write_109 cu pa re cl si lt (fl_M_write_20 cu pa re cl si lt  n20) ln pg x1 x2 y1 y2 = some out → ∀ (H : Heap) (locs : List Loc), va_P (dC, dI) vwCl [(h0, .inr (6, [.int bg, .ref h1, .ref h2, .ref h3, .ref h4, .ref h5, .ref h6, .ref h7, .int ln, .ref h8, .int mt, .int en, .int sx, .int pl, .int ov, .int tk, .ref h9])), (h1, .inl (cC, 6, .inl na)), (h2, .inl (cI, 2, .inl cu)), (h3, .inl (cI, 48, .inl pa)), (h4, .inl (cI, 48, .inl re)), (h5, .inl (cZ, 48, .inl cl)), (h6, .inl (cI, 48, .inl si)), (h7, .inl (cC, 288, .inl lt)), (h8, .inl (cC, 3000, .inl pg)), (h9, .inl (cC, 6, .inl rd))] H → va_D A [(h0, .inr (6, [.int bg, .ref h1, .ref h2, .ref h3, .ref h4, .ref h5, .ref h6, .ref h7, .int ln, .ref h8, .int mt, .int en, .int sx, .int pl, .int ov, .int tk, .ref h9])), (h1, .inl (cC, 6, .inl na)), (h2, .inl (cI, 2, .inl cu)), (h3, .inl (cI, 48, .inl pa)), (h4, .inl (cI, 48, .inl re)), (h5, .inl (cZ, 48, .inl cl)), (h6, .inl (cI, 48, .inl si)), (h7, .inl (cC, 288, .inl lt)), (h8, .inl (cC, 3000, .inl pg)), (h9, .inl (cC, 6, .inl rd))] → va_S A s.heap H locs → ∀ ls : Array Slot, lv_has ls 3 [(0, .ref h0), (1, .int x1), (2, .int x2)] → W p l e (headSpec ws_M_write { frames := 5, cells := 0, slots := 0, locals := 109 }).room s m args below meth c H locs 0 0 Q (F0 m 109 ls [.int y2, .int y1, .ref h0]) := by
        intro ln pg x1 x2 y1 y2 hF H locs hP hD hS ls hl
        unfold fb_M_write_109 at hF
        obtain ⟨o_109, ho_109, hF⟩ := jv_bi hF
        refine jv_mv (wr := []) (w1 := [(h0, .inr (6, [.int bg, .ref h1, .ref h2, .ref h3, .ref h4, .ref h5, .ref h6, .ref h7, .int o_109.1, .ref h8, .int mt, .int en, .int sx, .int pl, .int ov, .int tk, .ref h9])), (h1, .inl (cC, 6, .inl na)), (h2, .inl (cI, 2, .inl cu)), (h3, .inl (cI, 48, .inl pa)), (h4, .inl (cI, 48, .inl re)), (h5, .inl (cZ, 48, .inl cl)), (h6, .inl (cI, 48, .inl si)), (h7, .inl (cC, 288, .inl lt)), (h8, .inl (cC, 3000, .inl o_109.2)), (h9, .inl (cC, 6, .inl rd))]) (va_runV (C := cn_M) (As := [.int y1, .int y2]) (rest := []) ⟨hx, hb, hml, hown, ht⟩ (c_M_addVerdict l dC dI cI cL cC cZ h0 h1 h2 h3 h4 h5 h6 h7 h8 h9 H.size bg ln mt en sx pl ov tk na cu pa re cl si lt pg rd y1 y2 _ ho_109) (cwV 2 ht (gi_V tw_3_201 tw_3_203 tw_p_26 tw_1_4 tw_3_204) rfl rfl rfl (by decide +kernel) ⟨Nat.le_of_ble_eq_true rfl, Nat.le_of_ble_eq_true rfl⟩) (jv_pv hK hP hD [0, 1, 2, 3, 4, 5, 6, 7, 8, 9] rfl (by decide) rfl (va_recv hK hP (ci := 6) (q0 := 0) rfl rfl)) rfl rfl hl.1 rfl (lv_room (Nat.le_of_ble_eq_true rfl)) dd_M_write_109 ⟨Nat.le_of_ble_eq_true rfl, Nat.le_of_ble_eq_true rfl⟩) hP hD hS hA [0, 1, 2, 3, 4, 5, 6, 7, 8, 9] [] rfl rfl (by decide) (by decide) (fun H_67 locs_68 hP hD hS => ?_)
        have hP : va_P (dC, dI) vwCl [(h0, .inr (6, [.int bg, .ref h1, .ref h2, .ref h3, .ref h4, .ref h5, .ref h6, .ref h7, .int o_109.1, .ref h8, .int mt, .int en, .int sx, .int pl, .int ov, .int tk, .ref h9])), (h1, .inl (cC, 6, .inl na)), (h2, .inl (cI, 2, .inl cu)), (h3, .inl (cI, 48, .inl pa)), (h4, .inl (cI, 48, .inl re)), (h5, .inl (cZ, 48, .inl cl)), (h6, .inl (cI, 48, .inl si)), (h7, .inl (cC, 288, .inl lt)), (h8, .inl (cC, 3000, .inl o_109.2)), (h9, .inl (cC, 6, .inl rd))] H_67 := hP.sub [0, 1, 2, 3, 4, 5, 6, 7, 8, 9] rfl
        have hD : va_D A [(h0, .inr (6, [.int bg, .ref h1, .ref h2, .ref h3, .ref h4, .ref h5, .ref h6, .ref h7, .int o_109.1, .ref h8, .int mt, .int en, .int sx, .int pl, .int ov, .int tk, .ref h9])), (h1, .inl (cC, 6, .inl na)), (h2, .inl (cI, 2, .inl cu)), (h3, .inl (cI, 48, .inl pa)), (h4, .inl (cI, 48, .inl re)), (h5, .inl (cZ, 48, .inl cl)), (h6, .inl (cI, 48, .inl si)), (h7, .inl (cC, 288, .inl lt)), (h8, .inl (cC, 3000, .inl o_109.2)), (h9, .inl (cC, 6, .inl rd))] := hD.sub [0, 1, 2, 3, 4, 5, 6, 7, 8, 9] (by decide) rfl
        refine lv_aload_n hx hb dd_M_write_112 rfl (lv_at hl 0 rfl) ?_
        refine va_get (D := (dC, dI)) (ci := 6) (v := .ref h4) (C := cn_M) (T := tt_M) (N := 17) hx hb ht in_M hown hK hP 0 rfl rfl 4 (by decide) (ht _ tw_3_45) (fun _ h9 => h9) rfl dd_M_write_113 ?_
        refine lv_iload_n hx hb dd_M_write_116 rfl (lv_at hl 2 rfl) ?_
        obtain ⟨g_69, hF⟩ := jv_gi hF
        refine va_iald hx hb hK hP 4 0 rfl rfl (jv_in g_69) dd_M_write_117 ?_
        refine lv_iconst (v := 1) hx hb dd_M_write_118 (by decide) ?_
        refine lv_icmp_le (tgt := 134) hx hb dd_M_write_119 (by decide) (fun c_70 => ?_) (fun c_70 => ?_)
        · have hF := jv_t c_70 hF
          refine lv_aload_n hx hb dd_M_write_134 rfl (lv_at hl 0 rfl) ?_
          refine lv_bipush (v := 10) hx hb dd_M_write_135 (by decide) ?_
          obtain ⟨o_137, ho_137, hF⟩ := jv_bi hF
          refine jv_mv (wr := []) (w1 := [(h0, .inr (6, [.int bg, .ref h1, .ref h2, .ref h3, .ref h4, .ref h5, .ref h6, .ref h7, .int o_137.1, .ref h8, .int mt, .int en, .int sx, .int pl, .int ov, .int tk, .ref h9])), (h1, .inl (cC, 6, .inl na)), (h2, .inl (cI, 2, .inl cu)), (h3, .inl (cI, 48, .inl pa)), (h4, .inl (cI, 48, .inl re)), (h5, .inl (cZ, 48, .inl cl)), (h6, .inl (cI, 48, .inl si)), (h7, .inl (cC, 288, .inl lt)), (h8, .inl (cC, 3000, .inl o_137.2)), (h9, .inl (cC, 6, .inl rd))]) (va_runV (C := cn_M) (As := [.int 10]) (rest := []) ⟨hx, hb, hml, hown, ht⟩ (c_M_add l dC dI cI cL cC cZ h0 h1 h2 h3 h4 h5 h6 h7 h8 h9 H_67.size bg o_109.1 mt en sx pl ov tk na cu pa re cl si lt o_109.2 rd 10 _ ho_137) (cwV 1 ht (gi_V tw_3_181 tw_3_183 tw_p_21 tw_1_4 tw_3_184) rfl rfl rfl (by decide +kernel) ⟨Nat.le_of_ble_eq_true rfl, Nat.le_of_ble_eq_true rfl⟩) (jv_pv hK hP hD [0, 1, 2, 3, 4, 5, 6, 7, 8, 9] rfl (by decide) rfl (va_recv hK hP (ci := 6) (q0 := 0) rfl rfl)) rfl rfl hl.1 rfl (lv_room (Nat.le_of_ble_eq_true rfl)) dd_M_write_137 ⟨Nat.le_of_ble_eq_true rfl, Nat.le_of_ble_eq_true rfl⟩) hP hD hS hA [0, 1, 2, 3, 4, 5, 6, 7, 8, 9] [] rfl rfl (by decide) (by decide) (fun H_71 locs_72 hP hD hS => ?_)
          have hP : va_P (dC, dI) vwCl [(h0, .inr (6, [.int bg, .ref h1, .ref h2, .ref h3, .ref h4, .ref h5, .ref h6, .ref h7, .int o_137.1, .ref h8, .int mt, .int en, .int sx, .int pl, .int ov, .int tk, .ref h9])), (h1, .inl (cC, 6, .inl na)), (h2, .inl (cI, 2, .inl cu)), (h3, .inl (cI, 48, .inl pa)), (h4, .inl (cI, 48, .inl re)), (h5, .inl (cZ, 48, .inl cl)), (h6, .inl (cI, 48, .inl si)), (h7, .inl (cC, 288, .inl lt)), (h8, .inl (cC, 3000, .inl o_137.2)), (h9, .inl (cC, 6, .inl rd))] H_71 := hP.sub [0, 1, 2, 3, 4, 5, 6, 7, 8, 9] rfl
          have hD : va_D A [(h0, .inr (6, [.int bg, .ref h1, .ref h2, .ref h3, .ref h4, .ref h5, .ref h6, .ref h7, .int o_137.1, .ref h8, .int mt, .int en, .int sx, .int pl, .int ov, .int tk, .ref h9])), (h1, .inl (cC, 6, .inl na)), (h2, .inl (cI, 2, .inl cu)), (h3, .inl (cI, 48, .inl pa)), (h4, .inl (cI, 48, .inl re)), (h5, .inl (cZ, 48, .inl cl)), (h6, .inl (cI, 48, .inl si)), (h7, .inl (cC, 288, .inl lt)), (h8, .inl (cC, 3000, .inl o_137.2)), (h9, .inl (cC, 6, .inl rd))] := hD.sub [0, 1, 2, 3, 4, 5, 6, 7, 8, 9] (by decide) rfl
          refine lv_iinc (v := x2 + 1) (lv' := [(2, .int (x2 + 1)), (0, .ref h0), (1, .int x1)]) hx hb dd_M_write_140 hl (k := 2) rfl rfl (by decide) rfl (fun ls hl => ?_)
          refine lv_goto (tgt := 20) hx hb dd_M_write_143 (by decide) ?_
          exact ih20 o_137.1 o_137.2 x1 (x2 + 1) hF H_71 locs_72 hP hD hS ls (lv_sub hl [1, 2, 0] rfl)
        · have hF := jv_f c_70 hF
          refine lv_aload_n hx hb dd_M_write_122 rfl (lv_at hl 0 rfl) ?_
          refine lv_aload_n hx hb dd_M_write_123 rfl (lv_at hl 0 rfl) ?_
          refine va_get (D := (dC, dI)) (ci := 6) (v := .ref h4) (C := cn_M) (T := tt_M) (N := 17) hx hb ht in_M hown hK hP 0 rfl rfl 4 (by decide) (ht _ tw_3_45) (fun _ h9 => h9) rfl dd_M_write_124 ?_
          refine lv_iload_n hx hb dd_M_write_127 rfl (lv_at hl 2 rfl) ?_
          obtain ⟨g_73, hF⟩ := jv_gi hF
          refine va_iald hx hb hK hP 4 0 rfl rfl (jv_in g_73) dd_M_write_128 ?_
          refine lv_iconst (v := 2) hx hb dd_M_write_129 (by decide) ?_
          refine lv_iadd hx hb dd_M_write_130 ?_
          obtain ⟨o_131, ho_131, hF⟩ := jv_bi hF
          refine jv_mv (wr := []) (w1 := [(h0, .inr (6, [.int bg, .ref h1, .ref h2, .ref h3, .ref h4, .ref h5, .ref h6, .ref h7, .int o_131.1, .ref h8, .int mt, .int en, .int sx, .int pl, .int ov, .int tk, .ref h9])), (h1, .inl (cC, 6, .inl na)), (h2, .inl (cI, 2, .inl cu)), (h3, .inl (cI, 48, .inl pa)), (h4, .inl (cI, 48, .inl re)), (h5, .inl (cZ, 48, .inl cl)), (h6, .inl (cI, 48, .inl si)), (h7, .inl (cC, 288, .inl lt)), (h8, .inl (cC, 3000, .inl o_131.2)), (h9, .inl (cC, 6, .inl rd))]) (va_runV (C := cn_M) (As := [.int ((re x2.toNatClampNeg) + 2)]) (rest := []) ⟨hx, hb, hml, hown, ht⟩ (c_M_addText l dC dI cI cL cC cZ h0 h1 h2 h3 h4 h5 h6 h7 h8 h9 H_67.size bg o_109.1 mt en sx pl ov tk na cu pa re cl si lt o_109.2 rd ((re x2.toNatClampNeg) + 2) _ ho_131) (cwV 1 ht (gi_V tw_3_158 tw_3_160 tw_p_20 tw_1_4 tw_3_161) rfl rfl rfl (by decide +kernel) ⟨Nat.le_of_ble_eq_true rfl, Nat.le_of_ble_eq_true rfl⟩) (jv_pv hK hP hD [0, 1, 2, 3, 4, 5, 6, 7, 8, 9] rfl (by decide) rfl (va_recv hK hP (ci := 6) (q0 := 0) rfl rfl)) rfl rfl hl.1 rfl (lv_room (Nat.le_of_ble_eq_true rfl)) dd_M_write_131 ⟨Nat.le_of_ble_eq_true rfl, Nat.le_of_ble_eq_true rfl⟩) hP hD hS hA [0, 1, 2, 3, 4, 5, 6, 7, 8, 9] [] rfl rfl (by decide) (by decide) (fun H_74 locs_75 hP hD hS => ?_)
          have hP : va_P (dC, dI) vwCl [(h0, .inr (6, [.int bg, .ref h1, .ref h2, .ref h3, .ref h4, .ref h5, .ref h6, .ref h7, .int o_131.1, .ref h8, .int mt, .int en, .int sx, .int pl, .int ov, .int tk, .ref h9])), (h1, .inl (cC, 6, .inl na)), (h2, .inl (cI, 2, .inl cu)), (h3, .inl (cI, 48, .inl pa)), (h4, .inl (cI, 48, .inl re)), (h5, .inl (cZ, 48, .inl cl)), (h6, .inl (cI, 48, .inl si)), (h7, .inl (cC, 288, .inl lt)), (h8, .inl (cC, 3000, .inl o_131.2)), (h9, .inl (cC, 6, .inl rd))] H_74 := hP.sub [0, 1, 2, 3, 4, 5, 6, 7, 8, 9] rfl
          have hD : va_D A [(h0, .inr (6, [.int bg, .ref h1, .ref h2, .ref h3, .ref h4, .ref h5, .ref h6, .ref h7, .int o_131.1, .ref h8, .int mt, .int en, .int sx, .int pl, .int ov, .int tk, .ref h9])), (h1, .inl (cC, 6, .inl na)), (h2, .inl (cI, 2, .inl cu)), (h3, .inl (cI, 48, .inl pa)), (h4, .inl (cI, 48, .inl re)), (h5, .inl (cZ, 48, .inl cl)), (h6, .inl (cI, 48, .inl si)), (h7, .inl (cC, 288, .inl lt)), (h8, .inl (cC, 3000, .inl o_131.2)), (h9, .inl (cC, 6, .inl rd))] := hD.sub [0, 1, 2, 3, 4, 5, 6, 7, 8, 9] (by decide) rfl
          refine lv_aload_n hx hb dd_M_write_134 rfl (lv_at hl 0 rfl) ?_
          refine lv_bipush (v := 10) hx hb dd_M_write_135 (by decide) ?_
          obtain ⟨o_137, ho_137, hF⟩ := jv_bi hF
          refine jv_mv (wr := []) (w1 := [(h0, .inr (6, [.int bg, .ref h1, .ref h2, .ref h3, .ref h4, .ref h5, .ref h6, .ref h7, .int o_137.1, .ref h8, .int mt, .int en, .int sx, .int pl, .int ov, .int tk, .ref h9])), (h1, .inl (cC, 6, .inl na)), (h2, .inl (cI, 2, .inl cu)), (h3, .inl (cI, 48, .inl pa)), (h4, .inl (cI, 48, .inl re)), (h5, .inl (cZ, 48, .inl cl)), (h6, .inl (cI, 48, .inl si)), (h7, .inl (cC, 288, .inl lt)), (h8, .inl (cC, 3000, .inl o_137.2)), (h9, .inl (cC, 6, .inl rd))]) (va_runV (C := cn_M) (As := [.int 10]) (rest := []) ⟨hx, hb, hml, hown, ht⟩ (c_M_add l dC dI cI cL cC cZ h0 h1 h2 h3 h4 h5 h6 h7 h8 h9 H_74.size bg o_131.1 mt en sx pl ov tk na cu pa re cl si lt o_131.2 rd 10 _ ho_137) (cwV 1 ht (gi_V tw_3_181 tw_3_183 tw_p_21 tw_1_4 tw_3_184) rfl rfl rfl (by decide +kernel) ⟨Nat.le_of_ble_eq_true rfl, Nat.le_of_ble_eq_true rfl⟩) (jv_pv hK hP hD [0, 1, 2, 3, 4, 5, 6, 7, 8, 9] rfl (by decide) rfl (va_recv hK hP (ci := 6) (q0 := 0) rfl rfl)) rfl rfl hl.1 rfl (lv_room (Nat.le_of_ble_eq_true rfl)) dd_M_write_137 ⟨Nat.le_of_ble_eq_true rfl, Nat.le_of_ble_eq_true rfl⟩) hP hD hS hA [0, 1, 2, 3, 4, 5, 6, 7, 8, 9] [] rfl rfl (by decide) (by decide) (fun H_76 locs_77 hP hD hS => ?_)
          have hP : va_P (dC, dI) vwCl [(h0, .inr (6, [.int bg, .ref h1, .ref h2, .ref h3, .ref h4, .ref h5, .ref h6, .ref h7, .int o_137.1, .ref h8, .int mt, .int en, .int sx, .int pl, .int ov, .int tk, .ref h9])), (h1, .inl (cC, 6, .inl na)), (h2, .inl (cI, 2, .inl cu)), (h3, .inl (cI, 48, .inl pa)), (h4, .inl (cI, 48, .inl re)), (h5, .inl (cZ, 48, .inl cl)), (h6, .inl (cI, 48, .inl si)), (h7, .inl (cC, 288, .inl lt)), (h8, .inl (cC, 3000, .inl o_137.2)), (h9, .inl (cC, 6, .inl rd))] H_76 := hP.sub [0, 1, 2, 3, 4, 5, 6, 7, 8, 9] rfl
          have hD : va_D A [(h0, .inr (6, [.int bg, .ref h1, .ref h2, .ref h3, .ref h4, .ref h5, .ref h6, .ref h7, .int o_137.1, .ref h8, .int mt, .int en, .int sx, .int pl, .int ov, .int tk, .ref h9])), (h1, .inl (cC, 6, .inl na)), (h2, .inl (cI, 2, .inl cu)), (h3, .inl (cI, 48, .inl pa)), (h4, .inl (cI, 48, .inl re)), (h5, .inl (cZ, 48, .inl cl)), (h6, .inl (cI, 48, .inl si)), (h7, .inl (cC, 288, .inl lt)), (h8, .inl (cC, 3000, .inl o_137.2)), (h9, .inl (cC, 6, .inl rd))] := hD.sub [0, 1, 2, 3, 4, 5, 6, 7, 8, 9] (by decide) rfl
          refine lv_iinc (v := x2 + 1) (lv' := [(2, .int (x2 + 1)), (0, .ref h0), (1, .int x1)]) hx hb dd_M_write_140 hl (k := 2) rfl rfl (by decide) rfl (fun ls hl => ?_)
          refine lv_goto (tgt := 20) hx hb dd_M_write_143 (by decide) ?_
          exact ih20 o_137.1 o_137.2 x1 (x2 + 1) hF H_76 locs_77 hP hD hS ls (lv_sub hl [1, 2, 0] rfl)
      have lp30 : ∀ (n30 : Nat), ∀ (ln : Int32) (pg : Nat → Int32) (x1 : Int32) (x2 : Int32), fl_M_write_30 cu pa re cl si lt (fl_M_write_20 cu pa re cl si lt  n20) n30 (ln, pg, x1, x2) = some out → ∀ (H : Heap) (locs : List Loc), va_P (dC, dI) vwCl [(h0, .inr (6, [.int bg, .ref h1, .ref h2, .ref h3, .ref h4, .ref h5, .ref h6, .ref h7, .int ln, .ref h8, .int mt, .int en, .int sx, .int pl, .int ov, .int tk, .ref h9])), (h1, .inl (cC, 6, .inl na)), (h2, .inl (cI, 2, .inl cu)), (h3, .inl (cI, 48, .inl pa)), (h4, .inl (cI, 48, .inl re)), (h5, .inl (cZ, 48, .inl cl)), (h6, .inl (cI, 48, .inl si)), (h7, .inl (cC, 288, .inl lt)), (h8, .inl (cC, 3000, .inl pg)), (h9, .inl (cC, 6, .inl rd))] H → va_D A [(h0, .inr (6, [.int bg, .ref h1, .ref h2, .ref h3, .ref h4, .ref h5, .ref h6, .ref h7, .int ln, .ref h8, .int mt, .int en, .int sx, .int pl, .int ov, .int tk, .ref h9])), (h1, .inl (cC, 6, .inl na)), (h2, .inl (cI, 2, .inl cu)), (h3, .inl (cI, 48, .inl pa)), (h4, .inl (cI, 48, .inl re)), (h5, .inl (cZ, 48, .inl cl)), (h6, .inl (cI, 48, .inl si)), (h7, .inl (cC, 288, .inl lt)), (h8, .inl (cC, 3000, .inl pg)), (h9, .inl (cC, 6, .inl rd))] → va_S A s.heap H locs → ∀ ls : Array Slot, lv_has ls 3 [(0, .ref h0), (1, .int x1), (2, .int x2)] → W p l e (headSpec ws_M_write { frames := 5, cells := 0, slots := 0, locals := 109 }).room s m args below meth c H locs 0 0 Q (F0 m 30 ls []) := by
        intro n30
        induction n30 with
        | zero =>
          intro ln pg x1 x2 hF
          exact (jv_no hF).elim
        | succ n30 ih30 =>
          intro ln pg x1 x2 hF H locs hP hD hS ls hl
          have hF : fb_M_write_30 cu pa re cl si lt (fl_M_write_20 cu pa re cl si lt  n20) (fl_M_write_30 cu pa re cl si lt (fl_M_write_20 cu pa re cl si lt  n20) n30) ln pg x1 x2 = some out := hF
          unfold fb_M_write_30 at hF
          refine lv_iload_n hx hb dd_M_write_30 rfl (lv_at hl 1 rfl) ?_
          refine lv_aload_n hx hb dd_M_write_31 rfl (lv_at hl 0 rfl) ?_
          refine va_get (D := (dC, dI)) (ci := 6) (v := .ref h3) (C := cn_M) (T := tt_M) (N := 17) hx hb ht in_M hown hK hP 0 rfl rfl 3 (by decide) (ht _ tw_3_44) (fun _ h9 => h9) rfl dd_M_write_32 ?_
          refine lv_iload_n hx hb dd_M_write_35 rfl (lv_at hl 2 rfl) ?_
          obtain ⟨g_78, hF⟩ := jv_gi hF
          refine va_iald hx hb hK hP 3 0 rfl rfl (jv_in g_78) dd_M_write_36 ?_
          refine lv_icmp_eq (tgt := 55) hx hb dd_M_write_37 (by decide) (fun c_79 => ?_) (fun c_79 => ?_)
          · have hF := jv_t c_79 hF
            refine lv_aload_n hx hb dd_M_write_55 rfl (lv_at hl 0 rfl) ?_
            refine va_get (D := (dC, dI)) (ci := 6) (v := .ref h4) (C := cn_M) (T := tt_M) (N := 17) hx hb ht in_M hown hK hP 0 rfl rfl 4 (by decide) (ht _ tw_3_45) (fun _ h9 => h9) rfl dd_M_write_56 ?_
            refine lv_iload_n hx hb dd_M_write_59 rfl (lv_at hl 2 rfl) ?_
            obtain ⟨g_80, hF⟩ := jv_gi hF
            refine va_iald hx hb hK hP 4 0 rfl rfl (jv_in g_80) dd_M_write_60 ?_
            refine lv_iconst (v := 4) hx hb dd_M_write_61 (by decide) ?_
            refine lv_icmp_ne (tgt := 91) hx hb dd_M_write_62 (by decide) (fun c_81 => ?_) (fun c_81 => ?_)
            · have hF := jv_f c_81 hF
              refine lv_aload_n hx hb dd_M_write_91 rfl (lv_at hl 0 rfl) ?_
              refine lv_iload_n hx hb dd_M_write_92 rfl (lv_at hl 2 rfl) ?_
              refine lv_aload_n hx hb dd_M_write_93 rfl (lv_at hl 0 rfl) ?_
              refine va_get (D := (dC, dI)) (ci := 6) (v := .ref h4) (C := cn_M) (T := tt_M) (N := 17) hx hb ht in_M hown hK hP 0 rfl rfl 4 (by decide) (ht _ tw_3_45) (fun _ h9 => h9) rfl dd_M_write_94 ?_
              refine lv_iload_n hx hb dd_M_write_97 rfl (lv_at hl 2 rfl) ?_
              obtain ⟨g_82, hF⟩ := jv_gi hF
              refine va_iald hx hb hK hP 4 0 rfl rfl (jv_in g_82) dd_M_write_98 ?_
              refine lv_iconst (v := 2) hx hb dd_M_write_99 (by decide) ?_
              refine lv_irem hx hb dd_M_write_100 (by decide) ?_
              refine lv_if_ne (tgt := 108) hx hb dd_M_write_101 (by decide) (fun c_83 => ?_) (fun c_83 => ?_)
              · have hF := jv_f c_83 hF
                refine lv_iconst (v := 0) hx hb dd_M_write_108 (by decide) ?_
                exact bl109 ln pg x1 x2 x2 0 hF H locs hP hD hS ls (lv_sub hl [0, 1, 2] rfl)
              · have hF := jv_t c_83 hF
                refine lv_iconst (v := 1) hx hb dd_M_write_104 (by decide) ?_
                refine lv_goto (tgt := 109) hx hb dd_M_write_105 (by decide) ?_
                exact bl109 ln pg x1 x2 x2 1 hF H locs hP hD hS ls (lv_sub hl [0, 1, 2] rfl)
            · have hF := jv_t c_81 hF
              refine lv_aload_n hx hb dd_M_write_65 rfl (lv_at hl 0 rfl) ?_
              refine lv_aload_n hx hb dd_M_write_66 rfl (lv_at hl 0 rfl) ?_
              refine lv_iconst (v := 0) hx hb dd_M_write_67 (by decide) ?_
              refine lv_iload_n hx hb dd_M_write_68 rfl (lv_at hl 2 rfl) ?_
              obtain ⟨o_69, ho_69, hF⟩ := jv_bi hF
              refine jv_ci (va_runV (C := cn_M) (As := [.int 0, .int x2]) (rest := [.ref h0]) ⟨hx, hb, hml, hown, ht⟩ (c_M_depthOf l dC dI cI cL cC cZ h0 h1 h2 h3 h4 h5 h6 h7 h8 h9 H.size bg ln mt en sx pl ov tk na cu pa re cl si lt pg rd 0 x2 _ ho_69) (cwV 2 ht (gi_V tw_3_106 tw_3_108 tw_p_15 tw_1_4 tw_3_109) rfl rfl rfl (by decide +kernel) ⟨Nat.le_of_ble_eq_true rfl, Nat.le_of_ble_eq_true rfl⟩) (jv_pv hK hP hD [0, 1, 2, 3, 4, 5, 6, 7, 8, 9] rfl (by decide) rfl (va_recv hK hP (ci := 6) (q0 := 0) rfl rfl)) rfl rfl hl.1 rfl (lv_room (Nat.le_of_ble_eq_true rfl)) dd_M_write_69 ⟨Nat.le_of_ble_eq_true rfl, Nat.le_of_ble_eq_true rfl⟩) ?_
              obtain ⟨o_72, ho_72, hF⟩ := jv_bi hF
              refine jv_mv (wr := []) (w1 := [(h0, .inr (6, [.int bg, .ref h1, .ref h2, .ref h3, .ref h4, .ref h5, .ref h6, .ref h7, .int o_72.1, .ref h8, .int mt, .int en, .int sx, .int pl, .int ov, .int tk, .ref h9])), (h1, .inl (cC, 6, .inl na)), (h2, .inl (cI, 2, .inl cu)), (h3, .inl (cI, 48, .inl pa)), (h4, .inl (cI, 48, .inl re)), (h5, .inl (cZ, 48, .inl cl)), (h6, .inl (cI, 48, .inl si)), (h7, .inl (cC, 288, .inl lt)), (h8, .inl (cC, 3000, .inl o_72.2)), (h9, .inl (cC, 6, .inl rd))]) (va_runV (C := cn_M) (As := [.int o_69]) (rest := []) ⟨hx, hb, hml, hown, ht⟩ (c_M_addSpaces l dC dI cI cL cC cZ h0 h1 h2 h3 h4 h5 h6 h7 h8 h9 H.size bg ln mt en sx pl ov tk na cu pa re cl si lt pg rd o_69 _ ho_72) (cwV 1 ht (gi_V tw_3_189 tw_3_191 tw_p_23 tw_1_4 tw_3_192) rfl rfl rfl (by decide +kernel) ⟨Nat.le_of_ble_eq_true rfl, Nat.le_of_ble_eq_true rfl⟩) (jv_pv hK hP hD [0, 1, 2, 3, 4, 5, 6, 7, 8, 9] rfl (by decide) rfl (va_recv hK hP (ci := 6) (q0 := 0) rfl rfl)) rfl rfl hl.1 rfl (lv_room (Nat.le_of_ble_eq_true rfl)) dd_M_write_72 ⟨Nat.le_of_ble_eq_true rfl, Nat.le_of_ble_eq_true rfl⟩) hP hD hS hA [0, 1, 2, 3, 4, 5, 6, 7, 8, 9] [] rfl rfl (by decide) (by decide) (fun H_84 locs_85 hP hD hS => ?_)
              have hP : va_P (dC, dI) vwCl [(h0, .inr (6, [.int bg, .ref h1, .ref h2, .ref h3, .ref h4, .ref h5, .ref h6, .ref h7, .int o_72.1, .ref h8, .int mt, .int en, .int sx, .int pl, .int ov, .int tk, .ref h9])), (h1, .inl (cC, 6, .inl na)), (h2, .inl (cI, 2, .inl cu)), (h3, .inl (cI, 48, .inl pa)), (h4, .inl (cI, 48, .inl re)), (h5, .inl (cZ, 48, .inl cl)), (h6, .inl (cI, 48, .inl si)), (h7, .inl (cC, 288, .inl lt)), (h8, .inl (cC, 3000, .inl o_72.2)), (h9, .inl (cC, 6, .inl rd))] H_84 := hP.sub [0, 1, 2, 3, 4, 5, 6, 7, 8, 9] rfl
              have hD : va_D A [(h0, .inr (6, [.int bg, .ref h1, .ref h2, .ref h3, .ref h4, .ref h5, .ref h6, .ref h7, .int o_72.1, .ref h8, .int mt, .int en, .int sx, .int pl, .int ov, .int tk, .ref h9])), (h1, .inl (cC, 6, .inl na)), (h2, .inl (cI, 2, .inl cu)), (h3, .inl (cI, 48, .inl pa)), (h4, .inl (cI, 48, .inl re)), (h5, .inl (cZ, 48, .inl cl)), (h6, .inl (cI, 48, .inl si)), (h7, .inl (cC, 288, .inl lt)), (h8, .inl (cC, 3000, .inl o_72.2)), (h9, .inl (cC, 6, .inl rd))] := hD.sub [0, 1, 2, 3, 4, 5, 6, 7, 8, 9] (by decide) rfl
              refine lv_aload_n hx hb dd_M_write_75 rfl (lv_at hl 0 rfl) ?_
              refine lv_bipush (v := 6) hx hb dd_M_write_76 (by decide) ?_
              obtain ⟨o_78, ho_78, hF⟩ := jv_bi hF
              refine jv_mv (wr := []) (w1 := [(h0, .inr (6, [.int bg, .ref h1, .ref h2, .ref h3, .ref h4, .ref h5, .ref h6, .ref h7, .int o_78.1, .ref h8, .int mt, .int en, .int sx, .int pl, .int ov, .int tk, .ref h9])), (h1, .inl (cC, 6, .inl na)), (h2, .inl (cI, 2, .inl cu)), (h3, .inl (cI, 48, .inl pa)), (h4, .inl (cI, 48, .inl re)), (h5, .inl (cZ, 48, .inl cl)), (h6, .inl (cI, 48, .inl si)), (h7, .inl (cC, 288, .inl lt)), (h8, .inl (cC, 3000, .inl o_78.2)), (h9, .inl (cC, 6, .inl rd))]) (va_runV (C := cn_M) (As := [.int 6]) (rest := []) ⟨hx, hb, hml, hown, ht⟩ (c_M_addText l dC dI cI cL cC cZ h0 h1 h2 h3 h4 h5 h6 h7 h8 h9 H_84.size bg o_72.1 mt en sx pl ov tk na cu pa re cl si lt o_72.2 rd 6 _ ho_78) (cwV 1 ht (gi_V tw_3_158 tw_3_160 tw_p_20 tw_1_4 tw_3_161) rfl rfl rfl (by decide +kernel) ⟨Nat.le_of_ble_eq_true rfl, Nat.le_of_ble_eq_true rfl⟩) (jv_pv hK hP hD [0, 1, 2, 3, 4, 5, 6, 7, 8, 9] rfl (by decide) rfl (va_recv hK hP (ci := 6) (q0 := 0) rfl rfl)) rfl rfl hl.1 rfl (lv_room (Nat.le_of_ble_eq_true rfl)) dd_M_write_78 ⟨Nat.le_of_ble_eq_true rfl, Nat.le_of_ble_eq_true rfl⟩) hP hD hS hA [0, 1, 2, 3, 4, 5, 6, 7, 8, 9] [] rfl rfl (by decide) (by decide) (fun H_86 locs_87 hP hD hS => ?_)
              have hP : va_P (dC, dI) vwCl [(h0, .inr (6, [.int bg, .ref h1, .ref h2, .ref h3, .ref h4, .ref h5, .ref h6, .ref h7, .int o_78.1, .ref h8, .int mt, .int en, .int sx, .int pl, .int ov, .int tk, .ref h9])), (h1, .inl (cC, 6, .inl na)), (h2, .inl (cI, 2, .inl cu)), (h3, .inl (cI, 48, .inl pa)), (h4, .inl (cI, 48, .inl re)), (h5, .inl (cZ, 48, .inl cl)), (h6, .inl (cI, 48, .inl si)), (h7, .inl (cC, 288, .inl lt)), (h8, .inl (cC, 3000, .inl o_78.2)), (h9, .inl (cC, 6, .inl rd))] H_86 := hP.sub [0, 1, 2, 3, 4, 5, 6, 7, 8, 9] rfl
              have hD : va_D A [(h0, .inr (6, [.int bg, .ref h1, .ref h2, .ref h3, .ref h4, .ref h5, .ref h6, .ref h7, .int o_78.1, .ref h8, .int mt, .int en, .int sx, .int pl, .int ov, .int tk, .ref h9])), (h1, .inl (cC, 6, .inl na)), (h2, .inl (cI, 2, .inl cu)), (h3, .inl (cI, 48, .inl pa)), (h4, .inl (cI, 48, .inl re)), (h5, .inl (cZ, 48, .inl cl)), (h6, .inl (cI, 48, .inl si)), (h7, .inl (cC, 288, .inl lt)), (h8, .inl (cC, 3000, .inl o_78.2)), (h9, .inl (cC, 6, .inl rd))] := hD.sub [0, 1, 2, 3, 4, 5, 6, 7, 8, 9] (by decide) rfl
              refine lv_aload_n hx hb dd_M_write_81 rfl (lv_at hl 0 rfl) ?_
              refine lv_iload_n hx hb dd_M_write_82 rfl (lv_at hl 2 rfl) ?_
              obtain ⟨o_83, ho_83, hF⟩ := jv_bi hF
              refine jv_mv (wr := []) (w1 := [(h0, .inr (6, [.int bg, .ref h1, .ref h2, .ref h3, .ref h4, .ref h5, .ref h6, .ref h7, .int o_83.1, .ref h8, .int mt, .int en, .int sx, .int pl, .int ov, .int tk, .ref h9])), (h1, .inl (cC, 6, .inl na)), (h2, .inl (cI, 2, .inl cu)), (h3, .inl (cI, 48, .inl pa)), (h4, .inl (cI, 48, .inl re)), (h5, .inl (cZ, 48, .inl cl)), (h6, .inl (cI, 48, .inl si)), (h7, .inl (cC, 288, .inl lt)), (h8, .inl (cC, 3000, .inl o_83.2)), (h9, .inl (cC, 6, .inl rd))]) (va_runV (C := cn_M) (As := [.int x2]) (rest := []) ⟨hx, hb, hml, hown, ht⟩ (c_M_addName l dC dI cI cL cC cZ h0 h1 h2 h3 h4 h5 h6 h7 h8 h9 H_86.size bg o_78.1 mt en sx pl ov tk na cu pa re cl si lt o_78.2 rd x2 _ ho_83) (cwV 1 ht (gi_V tw_3_209 tw_3_211 tw_p_28 tw_1_4 tw_3_212) rfl rfl rfl (by decide +kernel) ⟨Nat.le_of_ble_eq_true rfl, Nat.le_of_ble_eq_true rfl⟩) (jv_pv hK hP hD [0, 1, 2, 3, 4, 5, 6, 7, 8, 9] rfl (by decide) rfl (va_recv hK hP (ci := 6) (q0 := 0) rfl rfl)) rfl rfl hl.1 rfl (lv_room (Nat.le_of_ble_eq_true rfl)) dd_M_write_83 ⟨Nat.le_of_ble_eq_true rfl, Nat.le_of_ble_eq_true rfl⟩) hP hD hS hA [0, 1, 2, 3, 4, 5, 6, 7, 8, 9] [] rfl rfl (by decide) (by decide) (fun H_88 locs_89 hP hD hS => ?_)
              have hP : va_P (dC, dI) vwCl [(h0, .inr (6, [.int bg, .ref h1, .ref h2, .ref h3, .ref h4, .ref h5, .ref h6, .ref h7, .int o_83.1, .ref h8, .int mt, .int en, .int sx, .int pl, .int ov, .int tk, .ref h9])), (h1, .inl (cC, 6, .inl na)), (h2, .inl (cI, 2, .inl cu)), (h3, .inl (cI, 48, .inl pa)), (h4, .inl (cI, 48, .inl re)), (h5, .inl (cZ, 48, .inl cl)), (h6, .inl (cI, 48, .inl si)), (h7, .inl (cC, 288, .inl lt)), (h8, .inl (cC, 3000, .inl o_83.2)), (h9, .inl (cC, 6, .inl rd))] H_88 := hP.sub [0, 1, 2, 3, 4, 5, 6, 7, 8, 9] rfl
              have hD : va_D A [(h0, .inr (6, [.int bg, .ref h1, .ref h2, .ref h3, .ref h4, .ref h5, .ref h6, .ref h7, .int o_83.1, .ref h8, .int mt, .int en, .int sx, .int pl, .int ov, .int tk, .ref h9])), (h1, .inl (cC, 6, .inl na)), (h2, .inl (cI, 2, .inl cu)), (h3, .inl (cI, 48, .inl pa)), (h4, .inl (cI, 48, .inl re)), (h5, .inl (cZ, 48, .inl cl)), (h6, .inl (cI, 48, .inl si)), (h7, .inl (cC, 288, .inl lt)), (h8, .inl (cC, 3000, .inl o_83.2)), (h9, .inl (cC, 6, .inl rd))] := hD.sub [0, 1, 2, 3, 4, 5, 6, 7, 8, 9] (by decide) rfl
              refine lv_iload_n hx hb dd_M_write_86 rfl (lv_at hl 2 rfl) ?_
              refine lv_istore_n (lv' := [(1, .int x2), (0, .ref h0), (2, .int x2)]) hx hb dd_M_write_87 rfl hl (by decide) rfl (fun ls hl => ?_)
              refine lv_goto (tgt := 134) hx hb dd_M_write_88 (by decide) ?_
              refine lv_aload_n hx hb dd_M_write_134 rfl (lv_at hl 1 rfl) ?_
              refine lv_bipush (v := 10) hx hb dd_M_write_135 (by decide) ?_
              obtain ⟨o_137, ho_137, hF⟩ := jv_bi hF
              refine jv_mv (wr := []) (w1 := [(h0, .inr (6, [.int bg, .ref h1, .ref h2, .ref h3, .ref h4, .ref h5, .ref h6, .ref h7, .int o_137.1, .ref h8, .int mt, .int en, .int sx, .int pl, .int ov, .int tk, .ref h9])), (h1, .inl (cC, 6, .inl na)), (h2, .inl (cI, 2, .inl cu)), (h3, .inl (cI, 48, .inl pa)), (h4, .inl (cI, 48, .inl re)), (h5, .inl (cZ, 48, .inl cl)), (h6, .inl (cI, 48, .inl si)), (h7, .inl (cC, 288, .inl lt)), (h8, .inl (cC, 3000, .inl o_137.2)), (h9, .inl (cC, 6, .inl rd))]) (va_runV (C := cn_M) (As := [.int 10]) (rest := []) ⟨hx, hb, hml, hown, ht⟩ (c_M_add l dC dI cI cL cC cZ h0 h1 h2 h3 h4 h5 h6 h7 h8 h9 H_88.size bg o_83.1 mt en sx pl ov tk na cu pa re cl si lt o_83.2 rd 10 _ ho_137) (cwV 1 ht (gi_V tw_3_181 tw_3_183 tw_p_21 tw_1_4 tw_3_184) rfl rfl rfl (by decide +kernel) ⟨Nat.le_of_ble_eq_true rfl, Nat.le_of_ble_eq_true rfl⟩) (jv_pv hK hP hD [0, 1, 2, 3, 4, 5, 6, 7, 8, 9] rfl (by decide) rfl (va_recv hK hP (ci := 6) (q0 := 0) rfl rfl)) rfl rfl hl.1 rfl (lv_room (Nat.le_of_ble_eq_true rfl)) dd_M_write_137 ⟨Nat.le_of_ble_eq_true rfl, Nat.le_of_ble_eq_true rfl⟩) hP hD hS hA [0, 1, 2, 3, 4, 5, 6, 7, 8, 9] [] rfl rfl (by decide) (by decide) (fun H_90 locs_91 hP hD hS => ?_)
              have hP : va_P (dC, dI) vwCl [(h0, .inr (6, [.int bg, .ref h1, .ref h2, .ref h3, .ref h4, .ref h5, .ref h6, .ref h7, .int o_137.1, .ref h8, .int mt, .int en, .int sx, .int pl, .int ov, .int tk, .ref h9])), (h1, .inl (cC, 6, .inl na)), (h2, .inl (cI, 2, .inl cu)), (h3, .inl (cI, 48, .inl pa)), (h4, .inl (cI, 48, .inl re)), (h5, .inl (cZ, 48, .inl cl)), (h6, .inl (cI, 48, .inl si)), (h7, .inl (cC, 288, .inl lt)), (h8, .inl (cC, 3000, .inl o_137.2)), (h9, .inl (cC, 6, .inl rd))] H_90 := hP.sub [0, 1, 2, 3, 4, 5, 6, 7, 8, 9] rfl
              have hD : va_D A [(h0, .inr (6, [.int bg, .ref h1, .ref h2, .ref h3, .ref h4, .ref h5, .ref h6, .ref h7, .int o_137.1, .ref h8, .int mt, .int en, .int sx, .int pl, .int ov, .int tk, .ref h9])), (h1, .inl (cC, 6, .inl na)), (h2, .inl (cI, 2, .inl cu)), (h3, .inl (cI, 48, .inl pa)), (h4, .inl (cI, 48, .inl re)), (h5, .inl (cZ, 48, .inl cl)), (h6, .inl (cI, 48, .inl si)), (h7, .inl (cC, 288, .inl lt)), (h8, .inl (cC, 3000, .inl o_137.2)), (h9, .inl (cC, 6, .inl rd))] := hD.sub [0, 1, 2, 3, 4, 5, 6, 7, 8, 9] (by decide) rfl
              refine lv_iinc (v := x2 + 1) (lv' := [(2, .int (x2 + 1)), (1, .int x2), (0, .ref h0)]) hx hb dd_M_write_140 hl (k := 2) rfl rfl (by decide) rfl (fun ls hl => ?_)
              refine lv_goto (tgt := 20) hx hb dd_M_write_143 (by decide) ?_
              exact ih20 o_137.1 o_137.2 x2 (x2 + 1) hF H_90 locs_91 hP hD hS ls (lv_sub hl [2, 1, 0] rfl)
          · have hF := jv_f c_79 hF
            refine lv_aload_n hx hb dd_M_write_40 rfl (lv_at hl 0 rfl) ?_
            refine lv_iload_n hx hb dd_M_write_41 rfl (lv_at hl 1 rfl) ?_
            obtain ⟨o_42, ho_42, hF⟩ := jv_bi hF
            refine jv_mv (wr := []) (w1 := [(h0, .inr (6, [.int bg, .ref h1, .ref h2, .ref h3, .ref h4, .ref h5, .ref h6, .ref h7, .int o_42.1, .ref h8, .int mt, .int en, .int sx, .int pl, .int ov, .int tk, .ref h9])), (h1, .inl (cC, 6, .inl na)), (h2, .inl (cI, 2, .inl cu)), (h3, .inl (cI, 48, .inl pa)), (h4, .inl (cI, 48, .inl re)), (h5, .inl (cZ, 48, .inl cl)), (h6, .inl (cI, 48, .inl si)), (h7, .inl (cC, 288, .inl lt)), (h8, .inl (cC, 3000, .inl o_42.2)), (h9, .inl (cC, 6, .inl rd))]) (va_runV (C := cn_M) (As := [.int x1]) (rest := []) ⟨hx, hb, hml, hown, ht⟩ (c_M_finish l dC dI cI cL cC cZ h0 h1 h2 h3 h4 h5 h6 h7 h8 h9 H.size bg ln mt en sx pl ov tk na cu pa re cl si lt pg rd x1 _ ho_42) (cwV 1 ht (gi_V tw_3_185 tw_3_187 tw_p_22 tw_1_4 tw_3_188) rfl rfl rfl (by decide +kernel) ⟨Nat.le_of_ble_eq_true rfl, Nat.le_of_ble_eq_true rfl⟩) (jv_pv hK hP hD [0, 1, 2, 3, 4, 5, 6, 7, 8, 9] rfl (by decide) rfl (va_recv hK hP (ci := 6) (q0 := 0) rfl rfl)) rfl rfl hl.1 rfl (lv_room (Nat.le_of_ble_eq_true rfl)) dd_M_write_42 ⟨Nat.le_of_ble_eq_true rfl, Nat.le_of_ble_eq_true rfl⟩) hP hD hS hA [0, 1, 2, 3, 4, 5, 6, 7, 8, 9] [] rfl rfl (by decide) (by decide) (fun H_92 locs_93 hP hD hS => ?_)
            have hP : va_P (dC, dI) vwCl [(h0, .inr (6, [.int bg, .ref h1, .ref h2, .ref h3, .ref h4, .ref h5, .ref h6, .ref h7, .int o_42.1, .ref h8, .int mt, .int en, .int sx, .int pl, .int ov, .int tk, .ref h9])), (h1, .inl (cC, 6, .inl na)), (h2, .inl (cI, 2, .inl cu)), (h3, .inl (cI, 48, .inl pa)), (h4, .inl (cI, 48, .inl re)), (h5, .inl (cZ, 48, .inl cl)), (h6, .inl (cI, 48, .inl si)), (h7, .inl (cC, 288, .inl lt)), (h8, .inl (cC, 3000, .inl o_42.2)), (h9, .inl (cC, 6, .inl rd))] H_92 := hP.sub [0, 1, 2, 3, 4, 5, 6, 7, 8, 9] rfl
            have hD : va_D A [(h0, .inr (6, [.int bg, .ref h1, .ref h2, .ref h3, .ref h4, .ref h5, .ref h6, .ref h7, .int o_42.1, .ref h8, .int mt, .int en, .int sx, .int pl, .int ov, .int tk, .ref h9])), (h1, .inl (cC, 6, .inl na)), (h2, .inl (cI, 2, .inl cu)), (h3, .inl (cI, 48, .inl pa)), (h4, .inl (cI, 48, .inl re)), (h5, .inl (cZ, 48, .inl cl)), (h6, .inl (cI, 48, .inl si)), (h7, .inl (cC, 288, .inl lt)), (h8, .inl (cC, 3000, .inl o_42.2)), (h9, .inl (cC, 6, .inl rd))] := hD.sub [0, 1, 2, 3, 4, 5, 6, 7, 8, 9] (by decide) rfl
            refine lv_aload_n hx hb dd_M_write_45 rfl (lv_at hl 0 rfl) ?_
            refine va_get (D := (dC, dI)) (ci := 6) (v := .ref h3) (C := cn_M) (T := tt_M) (N := 17) hx hb ht in_M hown hK hP 0 rfl rfl 3 (by decide) (ht _ tw_3_44) (fun _ h9 => h9) rfl dd_M_write_46 ?_
            refine lv_iload_n hx hb dd_M_write_49 rfl (lv_at hl 1 rfl) ?_
            obtain ⟨g_94, hF⟩ := jv_gi hF
            refine va_iald hx hb hK hP 3 0 rfl rfl (jv_in g_94) dd_M_write_50 ?_
            refine lv_istore_n (lv' := [(1, .int (pa x1.toNatClampNeg)), (0, .ref h0), (2, .int x2)]) hx hb dd_M_write_51 rfl hl (by decide) rfl (fun ls hl => ?_)
            refine lv_goto (tgt := 30) hx hb dd_M_write_52 (by decide) ?_
            exact ih30 o_42.1 o_42.2 (pa x1.toNatClampNeg) x2 hF H_92 locs_93 hP hD hS ls (lv_sub hl [1, 0, 2] rfl)
      intro ln pg x1 x2 hF H locs hP hD hS ls hl
      have hF : fb_M_write_20 cu pa re cl si lt  (fl_M_write_20 cu pa re cl si lt  n20) ln pg x1 x2 = some out := hF
      unfold fb_M_write_20 at hF
      refine lv_iload_n hx hb dd_M_write_20 rfl (lv_at hl 2 rfl) ?_
      refine lv_aload_n hx hb dd_M_write_21 rfl (lv_at hl 0 rfl) ?_
      refine va_get (D := (dC, dI)) (ci := 6) (v := .ref h2) (C := cn_M) (T := tt_M) (N := 17) hx hb ht in_M hown hK hP 0 rfl rfl 2 (by decide) (ht _ tw_3_43) (fun _ h9 => h9) rfl dd_M_write_22 ?_
      refine lv_iconst (v := 0) hx hb dd_M_write_25 (by decide) ?_
      obtain ⟨g_95, hF⟩ := jv_gi hF
      refine va_iald hx hb hK hP 2 0 rfl rfl (jv_in g_95) dd_M_write_26 ?_
      refine lv_icmp_ge (tgt := 146) hx hb dd_M_write_27 (by decide) (fun c_96 => ?_) (fun c_96 => ?_)
      · have hF := jv_t c_96 hF
        exact lp146 4000 ln pg x1 hF H locs hP hD hS ls (lv_sub hl [0, 1] rfl)
      · have hF := jv_f c_96 hF
        exact lp30 4000 ln pg x1 x2 hF H locs hP hD hS ls (lv_sub hl [0, 1, 2] rfl)
  unfold fn_M_write at hF
  refine lv_aload_n hx hb dd_M_write_0 rfl (lv_at hl 0 rfl) ?_
  refine lv_iconst (v := 0) hx hb dd_M_write_1 (by decide) ?_
  refine va_put (D := (dC, dI)) (ci := 6) (v := .int 0) (ty := .int) (C := cn_M) (T := tt_M) (N := 17) hx hb ht in_M ty_M tyok_M nm_M hown hK hP hD hS 0 rfl rfl 8 (by decide) (ht _ tw_3_49) (fun _ h9 => h9) rfl (by decide +kernel) rfl rfl (Nat.le_of_ble_eq_true rfl) dd_M_write_2 (fun H_97 locs_98 hP hD hS => ?_)
  have hP : va_P (dC, dI) vwCl [(h0, .inr (6, [.int bg, .ref h1, .ref h2, .ref h3, .ref h4, .ref h5, .ref h6, .ref h7, .int 0, .ref h8, .int mt, .int en, .int sx, .int pl, .int ov, .int tk, .ref h9])), (h1, .inl (cC, 6, .inl na)), (h2, .inl (cI, 2, .inl cu)), (h3, .inl (cI, 48, .inl pa)), (h4, .inl (cI, 48, .inl re)), (h5, .inl (cZ, 48, .inl cl)), (h6, .inl (cI, 48, .inl si)), (h7, .inl (cC, 288, .inl lt)), (h8, .inl (cC, 3000, .inl pg)), (h9, .inl (cC, 6, .inl rd))] H_97 := hP
  have hD : va_D A [(h0, .inr (6, [.int bg, .ref h1, .ref h2, .ref h3, .ref h4, .ref h5, .ref h6, .ref h7, .int 0, .ref h8, .int mt, .int en, .int sx, .int pl, .int ov, .int tk, .ref h9])), (h1, .inl (cC, 6, .inl na)), (h2, .inl (cI, 2, .inl cu)), (h3, .inl (cI, 48, .inl pa)), (h4, .inl (cI, 48, .inl re)), (h5, .inl (cZ, 48, .inl cl)), (h6, .inl (cI, 48, .inl si)), (h7, .inl (cC, 288, .inl lt)), (h8, .inl (cC, 3000, .inl pg)), (h9, .inl (cC, 6, .inl rd))] := hD
  refine lv_aload_n hx hb dd_M_write_5 rfl (lv_at hl 0 rfl) ?_
  refine lv_iconst (v := 0) hx hb dd_M_write_6 (by decide) ?_
  obtain ⟨o_7, ho_7, hF⟩ := jv_bi hF
  refine jv_mv (wr := []) (w1 := [(h0, .inr (6, [.int bg, .ref h1, .ref h2, .ref h3, .ref h4, .ref h5, .ref h6, .ref h7, .int o_7.1, .ref h8, .int mt, .int en, .int sx, .int pl, .int ov, .int tk, .ref h9])), (h1, .inl (cC, 6, .inl na)), (h2, .inl (cI, 2, .inl cu)), (h3, .inl (cI, 48, .inl pa)), (h4, .inl (cI, 48, .inl re)), (h5, .inl (cZ, 48, .inl cl)), (h6, .inl (cI, 48, .inl si)), (h7, .inl (cC, 288, .inl lt)), (h8, .inl (cC, 3000, .inl o_7.2)), (h9, .inl (cC, 6, .inl rd))]) (va_runV (C := cn_M) (As := [.int 0]) (rest := []) ⟨hx, hb, hml, hown, ht⟩ (c_M_addText l dC dI cI cL cC cZ h0 h1 h2 h3 h4 h5 h6 h7 h8 h9 H_97.size bg 0 mt en sx pl ov tk na cu pa re cl si lt pg rd 0 _ ho_7) (cwV 1 ht (gi_V tw_3_158 tw_3_160 tw_p_20 tw_1_4 tw_3_161) rfl rfl rfl (by decide +kernel) ⟨Nat.le_of_ble_eq_true rfl, Nat.le_of_ble_eq_true rfl⟩) (jv_pv hK hP hD [0, 1, 2, 3, 4, 5, 6, 7, 8, 9] rfl (by decide) rfl (va_recv hK hP (ci := 6) (q0 := 0) rfl rfl)) rfl rfl hl.1 rfl (lv_room (Nat.le_of_ble_eq_true rfl)) dd_M_write_7 ⟨Nat.le_of_ble_eq_true rfl, Nat.le_of_ble_eq_true rfl⟩) hP hD hS hA [0, 1, 2, 3, 4, 5, 6, 7, 8, 9] [] rfl rfl (by decide) (by decide) (fun H_99 locs_100 hP hD hS => ?_)
  have hP : va_P (dC, dI) vwCl [(h0, .inr (6, [.int bg, .ref h1, .ref h2, .ref h3, .ref h4, .ref h5, .ref h6, .ref h7, .int o_7.1, .ref h8, .int mt, .int en, .int sx, .int pl, .int ov, .int tk, .ref h9])), (h1, .inl (cC, 6, .inl na)), (h2, .inl (cI, 2, .inl cu)), (h3, .inl (cI, 48, .inl pa)), (h4, .inl (cI, 48, .inl re)), (h5, .inl (cZ, 48, .inl cl)), (h6, .inl (cI, 48, .inl si)), (h7, .inl (cC, 288, .inl lt)), (h8, .inl (cC, 3000, .inl o_7.2)), (h9, .inl (cC, 6, .inl rd))] H_99 := hP.sub [0, 1, 2, 3, 4, 5, 6, 7, 8, 9] rfl
  have hD : va_D A [(h0, .inr (6, [.int bg, .ref h1, .ref h2, .ref h3, .ref h4, .ref h5, .ref h6, .ref h7, .int o_7.1, .ref h8, .int mt, .int en, .int sx, .int pl, .int ov, .int tk, .ref h9])), (h1, .inl (cC, 6, .inl na)), (h2, .inl (cI, 2, .inl cu)), (h3, .inl (cI, 48, .inl pa)), (h4, .inl (cI, 48, .inl re)), (h5, .inl (cZ, 48, .inl cl)), (h6, .inl (cI, 48, .inl si)), (h7, .inl (cC, 288, .inl lt)), (h8, .inl (cC, 3000, .inl o_7.2)), (h9, .inl (cC, 6, .inl rd))] := hD.sub [0, 1, 2, 3, 4, 5, 6, 7, 8, 9] (by decide) rfl
  refine lv_aload_n hx hb dd_M_write_10 rfl (lv_at hl 0 rfl) ?_
  refine lv_bipush (v := 10) hx hb dd_M_write_11 (by decide) ?_
  obtain ⟨o_13, ho_13, hF⟩ := jv_bi hF
  refine jv_mv (wr := []) (w1 := [(h0, .inr (6, [.int bg, .ref h1, .ref h2, .ref h3, .ref h4, .ref h5, .ref h6, .ref h7, .int o_13.1, .ref h8, .int mt, .int en, .int sx, .int pl, .int ov, .int tk, .ref h9])), (h1, .inl (cC, 6, .inl na)), (h2, .inl (cI, 2, .inl cu)), (h3, .inl (cI, 48, .inl pa)), (h4, .inl (cI, 48, .inl re)), (h5, .inl (cZ, 48, .inl cl)), (h6, .inl (cI, 48, .inl si)), (h7, .inl (cC, 288, .inl lt)), (h8, .inl (cC, 3000, .inl o_13.2)), (h9, .inl (cC, 6, .inl rd))]) (va_runV (C := cn_M) (As := [.int 10]) (rest := []) ⟨hx, hb, hml, hown, ht⟩ (c_M_add l dC dI cI cL cC cZ h0 h1 h2 h3 h4 h5 h6 h7 h8 h9 H_99.size bg o_7.1 mt en sx pl ov tk na cu pa re cl si lt o_7.2 rd 10 _ ho_13) (cwV 1 ht (gi_V tw_3_181 tw_3_183 tw_p_21 tw_1_4 tw_3_184) rfl rfl rfl (by decide +kernel) ⟨Nat.le_of_ble_eq_true rfl, Nat.le_of_ble_eq_true rfl⟩) (jv_pv hK hP hD [0, 1, 2, 3, 4, 5, 6, 7, 8, 9] rfl (by decide) rfl (va_recv hK hP (ci := 6) (q0 := 0) rfl rfl)) rfl rfl hl.1 rfl (lv_room (Nat.le_of_ble_eq_true rfl)) dd_M_write_13 ⟨Nat.le_of_ble_eq_true rfl, Nat.le_of_ble_eq_true rfl⟩) hP hD hS hA [0, 1, 2, 3, 4, 5, 6, 7, 8, 9] [] rfl rfl (by decide) (by decide) (fun H_101 locs_102 hP hD hS => ?_)
  have hP : va_P (dC, dI) vwCl [(h0, .inr (6, [.int bg, .ref h1, .ref h2, .ref h3, .ref h4, .ref h5, .ref h6, .ref h7, .int o_13.1, .ref h8, .int mt, .int en, .int sx, .int pl, .int ov, .int tk, .ref h9])), (h1, .inl (cC, 6, .inl na)), (h2, .inl (cI, 2, .inl cu)), (h3, .inl (cI, 48, .inl pa)), (h4, .inl (cI, 48, .inl re)), (h5, .inl (cZ, 48, .inl cl)), (h6, .inl (cI, 48, .inl si)), (h7, .inl (cC, 288, .inl lt)), (h8, .inl (cC, 3000, .inl o_13.2)), (h9, .inl (cC, 6, .inl rd))] H_101 := hP.sub [0, 1, 2, 3, 4, 5, 6, 7, 8, 9] rfl
  have hD : va_D A [(h0, .inr (6, [.int bg, .ref h1, .ref h2, .ref h3, .ref h4, .ref h5, .ref h6, .ref h7, .int o_13.1, .ref h8, .int mt, .int en, .int sx, .int pl, .int ov, .int tk, .ref h9])), (h1, .inl (cC, 6, .inl na)), (h2, .inl (cI, 2, .inl cu)), (h3, .inl (cI, 48, .inl pa)), (h4, .inl (cI, 48, .inl re)), (h5, .inl (cZ, 48, .inl cl)), (h6, .inl (cI, 48, .inl si)), (h7, .inl (cC, 288, .inl lt)), (h8, .inl (cC, 3000, .inl o_13.2)), (h9, .inl (cC, 6, .inl rd))] := hD.sub [0, 1, 2, 3, 4, 5, 6, 7, 8, 9] (by decide) rfl
  refine lv_iconst (v := (-1)) hx hb dd_M_write_16 (by decide) ?_
  refine lv_istore_n (lv' := [(1, .int (-1)), (0, .ref h0)]) hx hb dd_M_write_17 rfl hl (by decide) rfl (fun ls hl => ?_)
  refine lv_iconst (v := 0) hx hb dd_M_write_18 (by decide) ?_
  refine lv_istore_n (lv' := [(2, .int 0), (1, .int (-1)), (0, .ref h0)]) hx hb dd_M_write_19 rfl hl (by decide) rfl (fun ls hl => ?_)
  exact lp20 4000 o_13.1 o_13.2 (-1) 0 hF H_101 locs_102 hP hD hS ls (lv_sub hl [2, 1, 0] rfl)
set_option maxHeartbeats 40000000 in
set_option maxRecDepth 100000 in
theorem c_M_eat (l : Launch) (dC : Nat → ClassId) (dI : Nat → Nat → Nat) (cI cL cC cZ : ClassId) (h0 h1 h2 h3 h4 h5 h6 h7 h8 h9 : Nat) (sz : Nat) (bg : Int32) (ln : Int32) (mt : Int32) (en : Int32) (sx : Int32) (pl : Int32) (ov : Int32) (tk : Int32) (na : Nat → Int32) (cu : Nat → Int32) (pa : Nat → Int32) (re : Nat → Int32) (cl : Nat → Int32) (si : Nat → Int32) (lt : Nat → Int32) (pg : Nat → Int32) (rd : Nat → Int32) (x1 : Int32) (out : Int32 × Int32) (hF : fn_M_eat en pg mt x1 = some out) : Met l yy_M_eat ws_M_eat { frames := 2, cells := 0, slots := 0, locals := 44 } (mP_ (dC, dI) (tk_ cI cL cC cZ) [(h0, .inr (6, [.int bg, .ref h1, .ref h2, .ref h3, .ref h4, .ref h5, .ref h6, .ref h7, .int ln, .ref h8, .int mt, .int en, .int sx, .int pl, .int ov, .int tk, .ref h9])), (h1, .inl (cC, 6, .inl na)), (h2, .inl (cI, 2, .inl cu)), (h3, .inl (cI, 48, .inl pa)), (h4, .inl (cI, 48, .inl re)), (h5, .inl (cZ, 48, .inl cl)), (h6, .inl (cI, 48, .inl si)), (h7, .inl (cC, 288, .inl lt)), (h8, .inl (cC, 3000, .inl pg)), (h9, .inl (cC, 6, .inl rd))] sz [.ref h0, .int x1]) (va_Qi (fun r (_ : Unit) => r = out.1) (mB_ (dC, dI) (tk_ cI cL cC cZ) [(h0, .inr (6, [.int bg, .ref h1, .ref h2, .ref h3, .ref h4, .ref h5, .ref h6, .ref h7, .int ln, .ref h8, .int out.2, .int en, .int sx, .int pl, .int ov, .int tk, .ref h9])), (h1, .inl (cC, 6, .inl na)), (h2, .inl (cI, 2, .inl cu)), (h3, .inl (cI, 48, .inl pa)), (h4, .inl (cI, 48, .inl re)), (h5, .inl (cZ, 48, .inl cl)), (h6, .inl (cI, 48, .inl si)), (h7, .inl (cC, 288, .inl lt)), (h8, .inl (cC, 3000, .inl pg)), (h9, .inl (cC, 6, .inl rd))] (va_A [(h0, .inr (6, [.int bg, .ref h1, .ref h2, .ref h3, .ref h4, .ref h5, .ref h6, .ref h7, .int ln, .ref h8, .int mt, .int en, .int sx, .int pl, .int ov, .int tk, .ref h9])), (h1, .inl (cC, 6, .inl na)), (h2, .inl (cI, 2, .inl cu)), (h3, .inl (cI, 48, .inl pa)), (h4, .inl (cI, 48, .inl re)), (h5, .inl (cZ, 48, .inl cl)), (h6, .inl (cI, 48, .inl si)), (h7, .inl (cC, 288, .inl lt)), (h8, .inl (cC, 3000, .inl pg)), (h9, .inl (cC, 6, .inl rd))] sz)) (va_A [(h0, .inr (6, [.int bg, .ref h1, .ref h2, .ref h3, .ref h4, .ref h5, .ref h6, .ref h7, .int ln, .ref h8, .int mt, .int en, .int sx, .int pl, .int ov, .int tk, .ref h9])), (h1, .inl (cC, 6, .inl na)), (h2, .inl (cI, 2, .inl cu)), (h3, .inl (cI, 48, .inl pa)), (h4, .inl (cI, 48, .inl re)), (h5, .inl (cZ, 48, .inl cl)), (h6, .inl (cI, 48, .inl si)), (h7, .inl (cC, 288, .inl lt)), (h8, .inl (cC, 3000, .inl pg)), (h9, .inl (cC, 6, .inl rd))] sz)) 0 0 (va_A [(h0, .inr (6, [.int bg, .ref h1, .ref h2, .ref h3, .ref h4, .ref h5, .ref h6, .ref h7, .int ln, .ref h8, .int mt, .int en, .int sx, .int pl, .int ov, .int tk, .ref h9])), (h1, .inl (cC, 6, .inl na)), (h2, .inl (cI, 2, .inl cu)), (h3, .inl (cI, 48, .inl pa)), (h4, .inl (cI, 48, .inl re)), (h5, .inl (cZ, 48, .inl cl)), (h6, .inl (cI, 48, .inl si)), (h7, .inl (cC, 288, .inl lt)), (h8, .inl (cC, 3000, .inl pg)), (h9, .inl (cC, 6, .inl rd))] sz) := by
  refine Met.ofW (cc := cc_M_eat) (maxL := 4) (ret := (some .boolean)) (by decide) rfl ?_
  intro p e s m args below meth c s₁ B hml hv
  obtain ⟨hargs, hsz, hP, hK, hD0⟩ := hv
  have hx := B.exec
  have hb := B.bytes
  have hr := B.returns
  have hts := atoms_spec (ws := ws_M_eat) B.pre
  have ht : ∀ w ∈ TB_, w.before args s = true := fun w h => hts w (List.mem_cons_of_mem _ h)
  have hown : s.vm.findClass cn_M = some m.cls := findClass_of_methodNamed B.named
  have hlocks := B.notSynchronized
  subst hsz
  have hD := hD0.self (sz := s.heap.size)
  generalize hAe : va_A [(h0, .inr (6, [.int bg, .ref h1, .ref h2, .ref h3, .ref h4, .ref h5, .ref h6, .ref h7, .int ln, .ref h8, .int mt, .int en, .int sx, .int pl, .int ov, .int tk, .ref h9])), (h1, .inl (cC, 6, .inl na)), (h2, .inl (cI, 2, .inl cu)), (h3, .inl (cI, 48, .inl pa)), (h4, .inl (cI, 48, .inl re)), (h5, .inl (cZ, 48, .inl cl)), (h6, .inl (cI, 48, .inl si)), (h7, .inl (cC, 288, .inl lt)), (h8, .inl (cC, 3000, .inl pg)), (h9, .inl (cC, 6, .inl rd))] s.heap.size = A at hD ⊢
  have hA : ∀ q : Nat, s.heap.size ≤ q → A q := fun q h => by rw [← hAe]; exact Or.inr h
  have hS : va_S A s.heap s.heap [] := va_S.rf
  have hP : va_P (dC, dI) vwCl [(h0, .inr (6, [.int bg, .ref h1, .ref h2, .ref h3, .ref h4, .ref h5, .ref h6, .ref h7, .int ln, .ref h8, .int mt, .int en, .int sx, .int pl, .int ov, .int tk, .ref h9])), (h1, .inl (cC, 6, .inl na)), (h2, .inl (cI, 2, .inl cu)), (h3, .inl (cI, 48, .inl pa)), (h4, .inl (cI, 48, .inl re)), (h5, .inl (cZ, 48, .inl cl)), (h6, .inl (cI, 48, .inl si)), (h7, .inl (cC, 288, .inl lt)), (h8, .inl (cC, 3000, .inl pg)), (h9, .inl (cC, 6, .inl rd))] s.heap := hP
  have hl := lv_entry [.ref h0, .int x1] (n := 4) (Nat.le_of_ble_eq_true rfl)
  have he : entryFrame m args 4 = _ := (congrArg (fun a => entryFrame m a 4) hargs).trans (lg_entry_eq m [.ref h0, .int x1] 4)
  rw [he]
  generalize (lg_sl [.ref h0, .int x1] ++ List.replicate (4 - (lg_sl [.ref h0, .int x1]).length) Slot.unset).toArray = ls at hl ⊢
  have hl : lv_has ls 4 [(0, .ref h0), (1, .int x1)] := hl
  generalize hQ : MQ below _ args s _ _ _ = Q
  have lp7 : ∀ (n7 : Nat), ∀ (mt : Int32) (x1 : Int32) (x2 : Int32) (x3 : Int32), fl_M_eat_7 en pg  n7 (mt, x1, x2, x3) = some out → ∀ (H : Heap) (locs : List Loc), va_P (dC, dI) vwCl [(h0, .inr (6, [.int bg, .ref h1, .ref h2, .ref h3, .ref h4, .ref h5, .ref h6, .ref h7, .int ln, .ref h8, .int mt, .int en, .int sx, .int pl, .int ov, .int tk, .ref h9])), (h1, .inl (cC, 6, .inl na)), (h2, .inl (cI, 2, .inl cu)), (h3, .inl (cI, 48, .inl pa)), (h4, .inl (cI, 48, .inl re)), (h5, .inl (cZ, 48, .inl cl)), (h6, .inl (cI, 48, .inl si)), (h7, .inl (cC, 288, .inl lt)), (h8, .inl (cC, 3000, .inl pg)), (h9, .inl (cC, 6, .inl rd))] H → va_D A [(h0, .inr (6, [.int bg, .ref h1, .ref h2, .ref h3, .ref h4, .ref h5, .ref h6, .ref h7, .int ln, .ref h8, .int mt, .int en, .int sx, .int pl, .int ov, .int tk, .ref h9])), (h1, .inl (cC, 6, .inl na)), (h2, .inl (cI, 2, .inl cu)), (h3, .inl (cI, 48, .inl pa)), (h4, .inl (cI, 48, .inl re)), (h5, .inl (cZ, 48, .inl cl)), (h6, .inl (cI, 48, .inl si)), (h7, .inl (cC, 288, .inl lt)), (h8, .inl (cC, 3000, .inl pg)), (h9, .inl (cC, 6, .inl rd))] → va_S A s.heap H locs → ∀ ls : Array Slot, lv_has ls 4 [(0, .ref h0), (1, .int x1), (2, .int x2), (3, .int x3)] → W p l e (headSpec ws_M_eat { frames := 2, cells := 0, slots := 0, locals := 44 }).room s m args below meth c H locs 0 0 Q (F0 m 7 ls []) := by
    intro n7
    induction n7 with
    | zero =>
      intro mt x1 x2 x3 hF
      exact (jv_no hF).elim
    | succ n7 ih7 =>
      intro mt x1 x2 x3 hF H locs hP hD hS ls hl
      have hF : fb_M_eat_7 en pg  (fl_M_eat_7 en pg  n7) mt x1 x2 x3 = some out := hF
      unfold fb_M_eat_7 at hF
      refine lv_iload_n hx hb dd_M_eat_7 rfl (lv_at hl 1 rfl) ?_
      refine lv_iload_n hx hb dd_M_eat_8 rfl (lv_at hl 3 rfl) ?_
      obtain ⟨o_9, ho_9, hF⟩ := jv_bi hF
      refine jv_ci (va_runS (As := [.int x1, .int x3]) (rest := []) ⟨hx, hb, hml, hown, ht⟩ (c_M_letterOf l dC dI cI cL cC cZ H.size x1 x3 _ ho_9) (va_cwS 2 ht (gi_S tw_3_162 tw_3_163 tw_1_4 tw_3_164) rfl rfl rfl (by decide +kernel) ⟨Nat.le_of_ble_eq_true rfl, Nat.le_of_ble_eq_true rfl⟩) (jv_ps hK hP hD [] rfl (by decide) rfl) rfl rfl hl.1 rfl (lv_room (Nat.le_of_ble_eq_true rfl)) dd_M_eat_9 ⟨Nat.le_of_ble_eq_true rfl, Nat.le_of_ble_eq_true rfl⟩) ?_
      refine lv_if_eq (tgt := 48) hx hb dd_M_eat_12 (by decide) (fun c_7 => ?_) (fun c_7 => ?_)
      · have hF := jv_t c_7 hF
        refine lv_aload_n hx hb dd_M_eat_48 rfl (lv_at hl 0 rfl) ?_
        refine lv_iload_n hx hb dd_M_eat_49 rfl (lv_at hl 2 rfl) ?_
        refine va_put (D := (dC, dI)) (ci := 6) (v := .int x2) (ty := .int) (C := cn_M) (T := tt_M) (N := 17) hx hb ht in_M ty_M tyok_M nm_M hown hK hP hD hS 0 rfl rfl 10 (by decide) (ht _ tw_3_51) (fun _ h9 => h9) rfl (by decide +kernel) rfl rfl (Nat.le_of_ble_eq_true rfl) dd_M_eat_50 (fun H_8 locs_9 hP hD hS => ?_)
        have hP : va_P (dC, dI) vwCl [(h0, .inr (6, [.int bg, .ref h1, .ref h2, .ref h3, .ref h4, .ref h5, .ref h6, .ref h7, .int ln, .ref h8, .int x2, .int en, .int sx, .int pl, .int ov, .int tk, .ref h9])), (h1, .inl (cC, 6, .inl na)), (h2, .inl (cI, 2, .inl cu)), (h3, .inl (cI, 48, .inl pa)), (h4, .inl (cI, 48, .inl re)), (h5, .inl (cZ, 48, .inl cl)), (h6, .inl (cI, 48, .inl si)), (h7, .inl (cC, 288, .inl lt)), (h8, .inl (cC, 3000, .inl pg)), (h9, .inl (cC, 6, .inl rd))] H_8 := hP
        have hD : va_D A [(h0, .inr (6, [.int bg, .ref h1, .ref h2, .ref h3, .ref h4, .ref h5, .ref h6, .ref h7, .int ln, .ref h8, .int x2, .int en, .int sx, .int pl, .int ov, .int tk, .ref h9])), (h1, .inl (cC, 6, .inl na)), (h2, .inl (cI, 2, .inl cu)), (h3, .inl (cI, 48, .inl pa)), (h4, .inl (cI, 48, .inl re)), (h5, .inl (cZ, 48, .inl cl)), (h6, .inl (cI, 48, .inl si)), (h7, .inl (cC, 288, .inl lt)), (h8, .inl (cC, 3000, .inl pg)), (h9, .inl (cC, 6, .inl rd))] := hD
        refine lv_iconst (v := 1) hx hb dd_M_eat_53 (by decide) ?_
        subst hQ
        obtain rfl := Option.some.inj hF
        exact W.zret (v := 1) hx hb hr rfl (fun t ht hW => ⟨⟨1, (), rfl, rfl, by rw [ht]; exact hP, va_K.moved hW.alike hK, hD⟩, hS.F ht⟩) hS.2.2 dd_M_eat_54
      · have hF := jv_f c_7 hF
        refine lv_iload_n hx hb dd_M_eat_15 rfl (lv_at hl 2 rfl) ?_
        refine lv_aload_n hx hb dd_M_eat_16 rfl (lv_at hl 0 rfl) ?_
        refine va_get (D := (dC, dI)) (ci := 6) (v := .int en) (C := cn_M) (T := tt_M) (N := 17) hx hb ht in_M hown hK hP 0 rfl rfl 11 (by decide) (ht _ tw_3_52) (fun _ h9 => h9) rfl dd_M_eat_17 ?_
        refine lv_icmp_ge (tgt := 37) hx hb dd_M_eat_20 (by decide) (fun c_10 => ?_) (fun c_10 => ?_)
        · have hF := jv_t c_10 hF
          refine lv_iconst (v := 0) hx hb dd_M_eat_37 (by decide) ?_
          subst hQ
          obtain rfl := Option.some.inj hF
          exact W.zret (v := 0) hx hb hr rfl (fun t ht hW => ⟨⟨0, (), rfl, rfl, by rw [ht]; exact hP, va_K.moved hW.alike hK, hD⟩, hS.F ht⟩) hS.2.2 dd_M_eat_38
        · have hF := jv_f c_10 hF
          refine lv_aload_n hx hb dd_M_eat_23 rfl (lv_at hl 0 rfl) ?_
          refine va_get (D := (dC, dI)) (ci := 6) (v := .ref h8) (C := cn_M) (T := tt_M) (N := 17) hx hb ht in_M hown hK hP 0 rfl rfl 9 (by decide) (ht _ tw_3_50) (fun _ h9 => h9) rfl dd_M_eat_24 ?_
          refine lv_iload_n hx hb dd_M_eat_27 rfl (lv_at hl 2 rfl) ?_
          obtain ⟨g_11, hF⟩ := jv_gi hF
          refine va_cald hx hb hK hP 8 2 rfl rfl (jv_in g_11) dd_M_eat_28 ?_
          refine lv_iload_n hx hb dd_M_eat_29 rfl (lv_at hl 1 rfl) ?_
          refine lv_iload_n hx hb dd_M_eat_30 rfl (lv_at hl 3 rfl) ?_
          obtain ⟨o_31, ho_31, hF⟩ := jv_bi hF
          refine jv_ci (va_runS (As := [.int x1, .int x3]) (rest := [.int (pg x2.toNatClampNeg)]) ⟨hx, hb, hml, hown, ht⟩ (c_M_letterOf l dC dI cI cL cC cZ H.size x1 x3 _ ho_31) (va_cwS 2 ht (gi_S tw_3_162 tw_3_163 tw_1_4 tw_3_164) rfl rfl rfl (by decide +kernel) ⟨Nat.le_of_ble_eq_true rfl, Nat.le_of_ble_eq_true rfl⟩) (jv_ps hK hP hD [] rfl (by decide) rfl) rfl rfl hl.1 rfl (lv_room (Nat.le_of_ble_eq_true rfl)) dd_M_eat_31 ⟨Nat.le_of_ble_eq_true rfl, Nat.le_of_ble_eq_true rfl⟩) ?_
          refine lv_icmp_eq (tgt := 39) hx hb dd_M_eat_34 (by decide) (fun c_12 => ?_) (fun c_12 => ?_)
          · have hF := jv_t c_12 hF
            refine lv_iinc (v := x2 + 1) (lv' := [(2, .int (x2 + 1)), (0, .ref h0), (1, .int x1), (3, .int x3)]) hx hb dd_M_eat_39 hl (k := 2) rfl rfl (by decide) rfl (fun ls hl => ?_)
            refine lv_iinc (v := x3 + 1) (lv' := [(3, .int (x3 + 1)), (2, .int (x2 + 1)), (0, .ref h0), (1, .int x1)]) hx hb dd_M_eat_42 hl (k := 3) rfl rfl (by decide) rfl (fun ls hl => ?_)
            refine lv_goto (tgt := 7) hx hb dd_M_eat_45 (by decide) ?_
            exact ih7 mt x1 (x2 + 1) (x3 + 1) hF H locs hP hD hS ls (lv_sub hl [2, 3, 1, 0] rfl)
          · have hF := jv_f c_12 hF
            refine lv_iconst (v := 0) hx hb dd_M_eat_37 (by decide) ?_
            subst hQ
            obtain rfl := Option.some.inj hF
            exact W.zret (v := 0) hx hb hr rfl (fun t ht hW => ⟨⟨0, (), rfl, rfl, by rw [ht]; exact hP, va_K.moved hW.alike hK, hD⟩, hS.F ht⟩) hS.2.2 dd_M_eat_38
  unfold fn_M_eat at hF
  refine lv_aload_n hx hb dd_M_eat_0 rfl (lv_at hl 0 rfl) ?_
  refine va_get (D := (dC, dI)) (ci := 6) (v := .int mt) (C := cn_M) (T := tt_M) (N := 17) hx hb ht in_M hown hK hP 0 rfl rfl 10 (by decide) (ht _ tw_3_51) (fun _ h9 => h9) rfl dd_M_eat_1 ?_
  refine lv_istore_n (lv' := [(2, .int mt), (0, .ref h0), (1, .int x1)]) hx hb dd_M_eat_4 rfl hl (by decide) rfl (fun ls hl => ?_)
  refine lv_iconst (v := 0) hx hb dd_M_eat_5 (by decide) ?_
  refine lv_istore_n (lv' := [(3, .int 0), (2, .int mt), (0, .ref h0), (1, .int x1)]) hx hb dd_M_eat_6 rfl hl (by decide) rfl (fun ls hl => ?_)
  exact lp7 4000 mt x1 mt 0 hF s.heap [] hP hD hS ls (lv_sub hl [2, 3, 1, 0] rfl)
set_option maxHeartbeats 40000000 in
set_option maxRecDepth 100000 in
theorem c_M_eatSpaces (l : Launch) (dC : Nat → ClassId) (dI : Nat → Nat → Nat) (cI cL cC cZ : ClassId) (h0 h1 h2 h3 h4 h5 h6 h7 h8 h9 : Nat) (sz : Nat) (bg : Int32) (ln : Int32) (mt : Int32) (en : Int32) (sx : Int32) (pl : Int32) (ov : Int32) (tk : Int32) (na : Nat → Int32) (cu : Nat → Int32) (pa : Nat → Int32) (re : Nat → Int32) (cl : Nat → Int32) (si : Nat → Int32) (lt : Nat → Int32) (pg : Nat → Int32) (rd : Nat → Int32) (x1 : Int32) (out : Int32 × Int32) (hF : fn_M_eatSpaces en pg mt x1 = some out) : Met l yy_M_eatSpaces ws_M_eatSpaces { frames := 0, cells := 0, slots := 0, locals := 0 } (mP_ (dC, dI) (tk_ cI cL cC cZ) [(h0, .inr (6, [.int bg, .ref h1, .ref h2, .ref h3, .ref h4, .ref h5, .ref h6, .ref h7, .int ln, .ref h8, .int mt, .int en, .int sx, .int pl, .int ov, .int tk, .ref h9])), (h1, .inl (cC, 6, .inl na)), (h2, .inl (cI, 2, .inl cu)), (h3, .inl (cI, 48, .inl pa)), (h4, .inl (cI, 48, .inl re)), (h5, .inl (cZ, 48, .inl cl)), (h6, .inl (cI, 48, .inl si)), (h7, .inl (cC, 288, .inl lt)), (h8, .inl (cC, 3000, .inl pg)), (h9, .inl (cC, 6, .inl rd))] sz [.ref h0, .int x1]) (va_Qi (fun r (_ : Unit) => r = out.1) (mB_ (dC, dI) (tk_ cI cL cC cZ) [(h0, .inr (6, [.int bg, .ref h1, .ref h2, .ref h3, .ref h4, .ref h5, .ref h6, .ref h7, .int ln, .ref h8, .int out.2, .int en, .int sx, .int pl, .int ov, .int tk, .ref h9])), (h1, .inl (cC, 6, .inl na)), (h2, .inl (cI, 2, .inl cu)), (h3, .inl (cI, 48, .inl pa)), (h4, .inl (cI, 48, .inl re)), (h5, .inl (cZ, 48, .inl cl)), (h6, .inl (cI, 48, .inl si)), (h7, .inl (cC, 288, .inl lt)), (h8, .inl (cC, 3000, .inl pg)), (h9, .inl (cC, 6, .inl rd))] (va_A [(h0, .inr (6, [.int bg, .ref h1, .ref h2, .ref h3, .ref h4, .ref h5, .ref h6, .ref h7, .int ln, .ref h8, .int mt, .int en, .int sx, .int pl, .int ov, .int tk, .ref h9])), (h1, .inl (cC, 6, .inl na)), (h2, .inl (cI, 2, .inl cu)), (h3, .inl (cI, 48, .inl pa)), (h4, .inl (cI, 48, .inl re)), (h5, .inl (cZ, 48, .inl cl)), (h6, .inl (cI, 48, .inl si)), (h7, .inl (cC, 288, .inl lt)), (h8, .inl (cC, 3000, .inl pg)), (h9, .inl (cC, 6, .inl rd))] sz)) (va_A [(h0, .inr (6, [.int bg, .ref h1, .ref h2, .ref h3, .ref h4, .ref h5, .ref h6, .ref h7, .int ln, .ref h8, .int mt, .int en, .int sx, .int pl, .int ov, .int tk, .ref h9])), (h1, .inl (cC, 6, .inl na)), (h2, .inl (cI, 2, .inl cu)), (h3, .inl (cI, 48, .inl pa)), (h4, .inl (cI, 48, .inl re)), (h5, .inl (cZ, 48, .inl cl)), (h6, .inl (cI, 48, .inl si)), (h7, .inl (cC, 288, .inl lt)), (h8, .inl (cC, 3000, .inl pg)), (h9, .inl (cC, 6, .inl rd))] sz)) 0 0 (va_A [(h0, .inr (6, [.int bg, .ref h1, .ref h2, .ref h3, .ref h4, .ref h5, .ref h6, .ref h7, .int ln, .ref h8, .int mt, .int en, .int sx, .int pl, .int ov, .int tk, .ref h9])), (h1, .inl (cC, 6, .inl na)), (h2, .inl (cI, 2, .inl cu)), (h3, .inl (cI, 48, .inl pa)), (h4, .inl (cI, 48, .inl re)), (h5, .inl (cZ, 48, .inl cl)), (h6, .inl (cI, 48, .inl si)), (h7, .inl (cC, 288, .inl lt)), (h8, .inl (cC, 3000, .inl pg)), (h9, .inl (cC, 6, .inl rd))] sz) := by
  refine Met.ofW (cc := cc_M_eatSpaces) (maxL := 3) (ret := (some .boolean)) (by decide) rfl ?_
  intro p e s m args below meth c s₁ B hml hv
  obtain ⟨hargs, hsz, hP, hK, hD0⟩ := hv
  have hx := B.exec
  have hb := B.bytes
  have hr := B.returns
  have hts := atoms_spec (ws := ws_M_eatSpaces) B.pre
  have ht : ∀ w ∈ TB_, w.before args s = true := fun w h => hts w (List.mem_cons_of_mem _ h)
  have hown : s.vm.findClass cn_M = some m.cls := findClass_of_methodNamed B.named
  have hlocks := B.notSynchronized
  subst hsz
  have hD := hD0.self (sz := s.heap.size)
  generalize hAe : va_A [(h0, .inr (6, [.int bg, .ref h1, .ref h2, .ref h3, .ref h4, .ref h5, .ref h6, .ref h7, .int ln, .ref h8, .int mt, .int en, .int sx, .int pl, .int ov, .int tk, .ref h9])), (h1, .inl (cC, 6, .inl na)), (h2, .inl (cI, 2, .inl cu)), (h3, .inl (cI, 48, .inl pa)), (h4, .inl (cI, 48, .inl re)), (h5, .inl (cZ, 48, .inl cl)), (h6, .inl (cI, 48, .inl si)), (h7, .inl (cC, 288, .inl lt)), (h8, .inl (cC, 3000, .inl pg)), (h9, .inl (cC, 6, .inl rd))] s.heap.size = A at hD ⊢
  have hA : ∀ q : Nat, s.heap.size ≤ q → A q := fun q h => by rw [← hAe]; exact Or.inr h
  have hS : va_S A s.heap s.heap [] := va_S.rf
  have hP : va_P (dC, dI) vwCl [(h0, .inr (6, [.int bg, .ref h1, .ref h2, .ref h3, .ref h4, .ref h5, .ref h6, .ref h7, .int ln, .ref h8, .int mt, .int en, .int sx, .int pl, .int ov, .int tk, .ref h9])), (h1, .inl (cC, 6, .inl na)), (h2, .inl (cI, 2, .inl cu)), (h3, .inl (cI, 48, .inl pa)), (h4, .inl (cI, 48, .inl re)), (h5, .inl (cZ, 48, .inl cl)), (h6, .inl (cI, 48, .inl si)), (h7, .inl (cC, 288, .inl lt)), (h8, .inl (cC, 3000, .inl pg)), (h9, .inl (cC, 6, .inl rd))] s.heap := hP
  have hl := lv_entry [.ref h0, .int x1] (n := 3) (Nat.le_of_ble_eq_true rfl)
  have he : entryFrame m args 3 = _ := (congrArg (fun a => entryFrame m a 3) hargs).trans (lg_entry_eq m [.ref h0, .int x1] 3)
  rw [he]
  generalize (lg_sl [.ref h0, .int x1] ++ List.replicate (3 - (lg_sl [.ref h0, .int x1]).length) Slot.unset).toArray = ls at hl ⊢
  have hl : lv_has ls 3 [(0, .ref h0), (1, .int x1)] := hl
  generalize hQ : MQ below _ args s _ _ _ = Q
  have lp2 : ∀ (n2 : Nat), ∀ (mt : Int32) (x1 : Int32) (x2 : Int32), fl_M_eatSpaces_2 en pg  n2 (mt, x1, x2) = some out → ∀ (H : Heap) (locs : List Loc), va_P (dC, dI) vwCl [(h0, .inr (6, [.int bg, .ref h1, .ref h2, .ref h3, .ref h4, .ref h5, .ref h6, .ref h7, .int ln, .ref h8, .int mt, .int en, .int sx, .int pl, .int ov, .int tk, .ref h9])), (h1, .inl (cC, 6, .inl na)), (h2, .inl (cI, 2, .inl cu)), (h3, .inl (cI, 48, .inl pa)), (h4, .inl (cI, 48, .inl re)), (h5, .inl (cZ, 48, .inl cl)), (h6, .inl (cI, 48, .inl si)), (h7, .inl (cC, 288, .inl lt)), (h8, .inl (cC, 3000, .inl pg)), (h9, .inl (cC, 6, .inl rd))] H → va_D A [(h0, .inr (6, [.int bg, .ref h1, .ref h2, .ref h3, .ref h4, .ref h5, .ref h6, .ref h7, .int ln, .ref h8, .int mt, .int en, .int sx, .int pl, .int ov, .int tk, .ref h9])), (h1, .inl (cC, 6, .inl na)), (h2, .inl (cI, 2, .inl cu)), (h3, .inl (cI, 48, .inl pa)), (h4, .inl (cI, 48, .inl re)), (h5, .inl (cZ, 48, .inl cl)), (h6, .inl (cI, 48, .inl si)), (h7, .inl (cC, 288, .inl lt)), (h8, .inl (cC, 3000, .inl pg)), (h9, .inl (cC, 6, .inl rd))] → va_S A s.heap H locs → ∀ ls : Array Slot, lv_has ls 3 [(0, .ref h0), (1, .int x1), (2, .int x2)] → W p l e (headSpec ws_M_eatSpaces { frames := 0, cells := 0, slots := 0, locals := 0 }).room s m args below meth c H locs 0 0 Q (F0 m 2 ls []) := by
    intro n2
    induction n2 with
    | zero =>
      intro mt x1 x2 hF
      exact (jv_no hF).elim
    | succ n2 ih2 =>
      intro mt x1 x2 hF H locs hP hD hS ls hl
      have hF : fb_M_eatSpaces_2 en pg  (fl_M_eatSpaces_2 en pg  n2) mt x1 x2 = some out := hF
      unfold fb_M_eatSpaces_2 at hF
      refine lv_iload_n hx hb dd_M_eatSpaces_2 rfl (lv_at hl 2 rfl) ?_
      refine lv_iconst (v := 4) hx hb dd_M_eatSpaces_3 (by decide) ?_
      refine lv_iload_n hx hb dd_M_eatSpaces_4 rfl (lv_at hl 1 rfl) ?_
      refine lv_imul hx hb dd_M_eatSpaces_5 ?_
      refine lv_icmp_ge (tgt := 52) hx hb dd_M_eatSpaces_6 (by decide) (fun c_7 => ?_) (fun c_7 => ?_)
      · have hF := jv_t c_7 hF
        refine lv_iconst (v := 1) hx hb dd_M_eatSpaces_52 (by decide) ?_
        subst hQ
        obtain rfl := Option.some.inj hF
        exact W.zret (v := 1) hx hb hr rfl (fun t ht hW => ⟨⟨1, (), rfl, rfl, by rw [ht]; exact hP, va_K.moved hW.alike hK, hD⟩, hS.F ht⟩) hS.2.2 dd_M_eatSpaces_53
      · have hF := jv_f c_7 hF
        refine lv_aload_n hx hb dd_M_eatSpaces_9 rfl (lv_at hl 0 rfl) ?_
        refine va_get (D := (dC, dI)) (ci := 6) (v := .int mt) (C := cn_M) (T := tt_M) (N := 17) hx hb ht in_M hown hK hP 0 rfl rfl 10 (by decide) (ht _ tw_3_51) (fun _ h9 => h9) rfl dd_M_eatSpaces_10 ?_
        refine lv_aload_n hx hb dd_M_eatSpaces_13 rfl (lv_at hl 0 rfl) ?_
        refine va_get (D := (dC, dI)) (ci := 6) (v := .int en) (C := cn_M) (T := tt_M) (N := 17) hx hb ht in_M hown hK hP 0 rfl rfl 11 (by decide) (ht _ tw_3_52) (fun _ h9 => h9) rfl dd_M_eatSpaces_14 ?_
        refine lv_icmp_ge (tgt := 34) hx hb dd_M_eatSpaces_17 (by decide) (fun c_8 => ?_) (fun c_8 => ?_)
        · have hF := jv_t c_8 hF
          refine lv_iconst (v := 0) hx hb dd_M_eatSpaces_34 (by decide) ?_
          subst hQ
          obtain rfl := Option.some.inj hF
          exact W.zret (v := 0) hx hb hr rfl (fun t ht hW => ⟨⟨0, (), rfl, rfl, by rw [ht]; exact hP, va_K.moved hW.alike hK, hD⟩, hS.F ht⟩) hS.2.2 dd_M_eatSpaces_35
        · have hF := jv_f c_8 hF
          refine lv_aload_n hx hb dd_M_eatSpaces_20 rfl (lv_at hl 0 rfl) ?_
          refine va_get (D := (dC, dI)) (ci := 6) (v := .ref h8) (C := cn_M) (T := tt_M) (N := 17) hx hb ht in_M hown hK hP 0 rfl rfl 9 (by decide) (ht _ tw_3_50) (fun _ h9 => h9) rfl dd_M_eatSpaces_21 ?_
          refine lv_aload_n hx hb dd_M_eatSpaces_24 rfl (lv_at hl 0 rfl) ?_
          refine va_get (D := (dC, dI)) (ci := 6) (v := .int mt) (C := cn_M) (T := tt_M) (N := 17) hx hb ht in_M hown hK hP 0 rfl rfl 10 (by decide) (ht _ tw_3_51) (fun _ h9 => h9) rfl dd_M_eatSpaces_25 ?_
          obtain ⟨g_9, hF⟩ := jv_gi hF
          refine va_cald hx hb hK hP 8 2 rfl rfl (jv_in g_9) dd_M_eatSpaces_28 ?_
          refine lv_bipush (v := 32) hx hb dd_M_eatSpaces_29 (by decide) ?_
          refine lv_icmp_eq (tgt := 36) hx hb dd_M_eatSpaces_31 (by decide) (fun c_10 => ?_) (fun c_10 => ?_)
          · have hF := jv_t c_10 hF
            refine lv_aload_n hx hb dd_M_eatSpaces_36 rfl (lv_at hl 0 rfl) ?_
            refine lv_dup hx hb dd_M_eatSpaces_37 rfl ?_
            refine va_get (D := (dC, dI)) (ci := 6) (v := .int mt) (C := cn_M) (T := tt_M) (N := 17) hx hb ht in_M hown hK hP 0 rfl rfl 10 (by decide) (ht _ tw_3_51) (fun _ h9 => h9) rfl dd_M_eatSpaces_38 ?_
            refine lv_iconst (v := 1) hx hb dd_M_eatSpaces_41 (by decide) ?_
            refine lv_iadd hx hb dd_M_eatSpaces_42 ?_
            refine va_put (D := (dC, dI)) (ci := 6) (v := .int (mt + 1)) (ty := .int) (C := cn_M) (T := tt_M) (N := 17) hx hb ht in_M ty_M tyok_M nm_M hown hK hP hD hS 0 rfl rfl 10 (by decide) (ht _ tw_3_51) (fun _ h9 => h9) rfl (by decide +kernel) rfl rfl (Nat.le_of_ble_eq_true rfl) dd_M_eatSpaces_43 (fun H_11 locs_12 hP hD hS => ?_)
            have hP : va_P (dC, dI) vwCl [(h0, .inr (6, [.int bg, .ref h1, .ref h2, .ref h3, .ref h4, .ref h5, .ref h6, .ref h7, .int ln, .ref h8, .int (mt + 1), .int en, .int sx, .int pl, .int ov, .int tk, .ref h9])), (h1, .inl (cC, 6, .inl na)), (h2, .inl (cI, 2, .inl cu)), (h3, .inl (cI, 48, .inl pa)), (h4, .inl (cI, 48, .inl re)), (h5, .inl (cZ, 48, .inl cl)), (h6, .inl (cI, 48, .inl si)), (h7, .inl (cC, 288, .inl lt)), (h8, .inl (cC, 3000, .inl pg)), (h9, .inl (cC, 6, .inl rd))] H_11 := hP
            have hD : va_D A [(h0, .inr (6, [.int bg, .ref h1, .ref h2, .ref h3, .ref h4, .ref h5, .ref h6, .ref h7, .int ln, .ref h8, .int (mt + 1), .int en, .int sx, .int pl, .int ov, .int tk, .ref h9])), (h1, .inl (cC, 6, .inl na)), (h2, .inl (cI, 2, .inl cu)), (h3, .inl (cI, 48, .inl pa)), (h4, .inl (cI, 48, .inl re)), (h5, .inl (cZ, 48, .inl cl)), (h6, .inl (cI, 48, .inl si)), (h7, .inl (cC, 288, .inl lt)), (h8, .inl (cC, 3000, .inl pg)), (h9, .inl (cC, 6, .inl rd))] := hD
            refine lv_iinc (v := x2 + 1) (lv' := [(2, .int (x2 + 1)), (0, .ref h0), (1, .int x1)]) hx hb dd_M_eatSpaces_46 hl (k := 2) rfl rfl (by decide) rfl (fun ls hl => ?_)
            refine lv_goto (tgt := 2) hx hb dd_M_eatSpaces_49 (by decide) ?_
            exact ih2 (mt + 1) x1 (x2 + 1) hF H_11 locs_12 hP hD hS ls (lv_sub hl [1, 2, 0] rfl)
          · have hF := jv_f c_10 hF
            refine lv_iconst (v := 0) hx hb dd_M_eatSpaces_34 (by decide) ?_
            subst hQ
            obtain rfl := Option.some.inj hF
            exact W.zret (v := 0) hx hb hr rfl (fun t ht hW => ⟨⟨0, (), rfl, rfl, by rw [ht]; exact hP, va_K.moved hW.alike hK, hD⟩, hS.F ht⟩) hS.2.2 dd_M_eatSpaces_35
  unfold fn_M_eatSpaces at hF
  refine lv_iconst (v := 0) hx hb dd_M_eatSpaces_0 (by decide) ?_
  refine lv_istore_n (lv' := [(2, .int 0), (0, .ref h0), (1, .int x1)]) hx hb dd_M_eatSpaces_1 rfl hl (by decide) rfl (fun ls hl => ?_)
  exact lp2 4000 mt x1 0 hF s.heap [] hP hD hS ls (lv_sub hl [1, 2, 0] rfl)
set_option maxHeartbeats 40000000 in
set_option maxRecDepth 100000 in
theorem c_M_eatDigit (l : Launch) (dC : Nat → ClassId) (dI : Nat → Nat → Nat) (cI cL cC cZ : ClassId) (h0 h1 h2 h3 h4 h5 h6 h7 h8 h9 : Nat) (sz : Nat) (bg : Int32) (ln : Int32) (mt : Int32) (en : Int32) (sx : Int32) (pl : Int32) (ov : Int32) (tk : Int32) (na : Nat → Int32) (cu : Nat → Int32) (pa : Nat → Int32) (re : Nat → Int32) (cl : Nat → Int32) (si : Nat → Int32) (lt : Nat → Int32) (pg : Nat → Int32) (rd : Nat → Int32) (x1 : Int32) (out : Int32 × Int32) (hF : fn_M_eatDigit en pg mt x1 = some out) : Met l yy_M_eatDigit ws_M_eatDigit { frames := 0, cells := 0, slots := 0, locals := 0 } (mP_ (dC, dI) (tk_ cI cL cC cZ) [(h0, .inr (6, [.int bg, .ref h1, .ref h2, .ref h3, .ref h4, .ref h5, .ref h6, .ref h7, .int ln, .ref h8, .int mt, .int en, .int sx, .int pl, .int ov, .int tk, .ref h9])), (h1, .inl (cC, 6, .inl na)), (h2, .inl (cI, 2, .inl cu)), (h3, .inl (cI, 48, .inl pa)), (h4, .inl (cI, 48, .inl re)), (h5, .inl (cZ, 48, .inl cl)), (h6, .inl (cI, 48, .inl si)), (h7, .inl (cC, 288, .inl lt)), (h8, .inl (cC, 3000, .inl pg)), (h9, .inl (cC, 6, .inl rd))] sz [.ref h0, .int x1]) (va_Qi (fun r (_ : Unit) => r = out.1) (mB_ (dC, dI) (tk_ cI cL cC cZ) [(h0, .inr (6, [.int bg, .ref h1, .ref h2, .ref h3, .ref h4, .ref h5, .ref h6, .ref h7, .int ln, .ref h8, .int out.2, .int en, .int sx, .int pl, .int ov, .int tk, .ref h9])), (h1, .inl (cC, 6, .inl na)), (h2, .inl (cI, 2, .inl cu)), (h3, .inl (cI, 48, .inl pa)), (h4, .inl (cI, 48, .inl re)), (h5, .inl (cZ, 48, .inl cl)), (h6, .inl (cI, 48, .inl si)), (h7, .inl (cC, 288, .inl lt)), (h8, .inl (cC, 3000, .inl pg)), (h9, .inl (cC, 6, .inl rd))] (va_A [(h0, .inr (6, [.int bg, .ref h1, .ref h2, .ref h3, .ref h4, .ref h5, .ref h6, .ref h7, .int ln, .ref h8, .int mt, .int en, .int sx, .int pl, .int ov, .int tk, .ref h9])), (h1, .inl (cC, 6, .inl na)), (h2, .inl (cI, 2, .inl cu)), (h3, .inl (cI, 48, .inl pa)), (h4, .inl (cI, 48, .inl re)), (h5, .inl (cZ, 48, .inl cl)), (h6, .inl (cI, 48, .inl si)), (h7, .inl (cC, 288, .inl lt)), (h8, .inl (cC, 3000, .inl pg)), (h9, .inl (cC, 6, .inl rd))] sz)) (va_A [(h0, .inr (6, [.int bg, .ref h1, .ref h2, .ref h3, .ref h4, .ref h5, .ref h6, .ref h7, .int ln, .ref h8, .int mt, .int en, .int sx, .int pl, .int ov, .int tk, .ref h9])), (h1, .inl (cC, 6, .inl na)), (h2, .inl (cI, 2, .inl cu)), (h3, .inl (cI, 48, .inl pa)), (h4, .inl (cI, 48, .inl re)), (h5, .inl (cZ, 48, .inl cl)), (h6, .inl (cI, 48, .inl si)), (h7, .inl (cC, 288, .inl lt)), (h8, .inl (cC, 3000, .inl pg)), (h9, .inl (cC, 6, .inl rd))] sz)) 0 0 (va_A [(h0, .inr (6, [.int bg, .ref h1, .ref h2, .ref h3, .ref h4, .ref h5, .ref h6, .ref h7, .int ln, .ref h8, .int mt, .int en, .int sx, .int pl, .int ov, .int tk, .ref h9])), (h1, .inl (cC, 6, .inl na)), (h2, .inl (cI, 2, .inl cu)), (h3, .inl (cI, 48, .inl pa)), (h4, .inl (cI, 48, .inl re)), (h5, .inl (cZ, 48, .inl cl)), (h6, .inl (cI, 48, .inl si)), (h7, .inl (cC, 288, .inl lt)), (h8, .inl (cC, 3000, .inl pg)), (h9, .inl (cC, 6, .inl rd))] sz) := by
  refine Met.ofW (cc := cc_M_eatDigit) (maxL := 2) (ret := (some .boolean)) (by decide) rfl ?_
  intro p e s m args below meth c s₁ B hml hv
  obtain ⟨hargs, hsz, hP, hK, hD0⟩ := hv
  have hx := B.exec
  have hb := B.bytes
  have hr := B.returns
  have hts := atoms_spec (ws := ws_M_eatDigit) B.pre
  have ht : ∀ w ∈ TB_, w.before args s = true := fun w h => hts w (List.mem_cons_of_mem _ h)
  have hown : s.vm.findClass cn_M = some m.cls := findClass_of_methodNamed B.named
  have hlocks := B.notSynchronized
  subst hsz
  have hD := hD0.self (sz := s.heap.size)
  generalize hAe : va_A [(h0, .inr (6, [.int bg, .ref h1, .ref h2, .ref h3, .ref h4, .ref h5, .ref h6, .ref h7, .int ln, .ref h8, .int mt, .int en, .int sx, .int pl, .int ov, .int tk, .ref h9])), (h1, .inl (cC, 6, .inl na)), (h2, .inl (cI, 2, .inl cu)), (h3, .inl (cI, 48, .inl pa)), (h4, .inl (cI, 48, .inl re)), (h5, .inl (cZ, 48, .inl cl)), (h6, .inl (cI, 48, .inl si)), (h7, .inl (cC, 288, .inl lt)), (h8, .inl (cC, 3000, .inl pg)), (h9, .inl (cC, 6, .inl rd))] s.heap.size = A at hD ⊢
  have hA : ∀ q : Nat, s.heap.size ≤ q → A q := fun q h => by rw [← hAe]; exact Or.inr h
  have hS : va_S A s.heap s.heap [] := va_S.rf
  have hP : va_P (dC, dI) vwCl [(h0, .inr (6, [.int bg, .ref h1, .ref h2, .ref h3, .ref h4, .ref h5, .ref h6, .ref h7, .int ln, .ref h8, .int mt, .int en, .int sx, .int pl, .int ov, .int tk, .ref h9])), (h1, .inl (cC, 6, .inl na)), (h2, .inl (cI, 2, .inl cu)), (h3, .inl (cI, 48, .inl pa)), (h4, .inl (cI, 48, .inl re)), (h5, .inl (cZ, 48, .inl cl)), (h6, .inl (cI, 48, .inl si)), (h7, .inl (cC, 288, .inl lt)), (h8, .inl (cC, 3000, .inl pg)), (h9, .inl (cC, 6, .inl rd))] s.heap := hP
  have hl := lv_entry [.ref h0, .int x1] (n := 2) (Nat.le_of_ble_eq_true rfl)
  have he : entryFrame m args 2 = _ := (congrArg (fun a => entryFrame m a 2) hargs).trans (lg_entry_eq m [.ref h0, .int x1] 2)
  rw [he]
  generalize (lg_sl [.ref h0, .int x1] ++ List.replicate (2 - (lg_sl [.ref h0, .int x1]).length) Slot.unset).toArray = ls at hl ⊢
  have hl : lv_has ls 2 [(0, .ref h0), (1, .int x1)] := hl
  generalize hQ : MQ below _ args s _ _ _ = Q
  unfold fn_M_eatDigit at hF
  refine lv_aload_n hx hb dd_M_eatDigit_0 rfl (lv_at hl 0 rfl) ?_
  refine va_get (D := (dC, dI)) (ci := 6) (v := .int mt) (C := cn_M) (T := tt_M) (N := 17) hx hb ht in_M hown hK hP 0 rfl rfl 10 (by decide) (ht _ tw_3_51) (fun _ h9 => h9) rfl dd_M_eatDigit_1 ?_
  refine lv_aload_n hx hb dd_M_eatDigit_4 rfl (lv_at hl 0 rfl) ?_
  refine va_get (D := (dC, dI)) (ci := 6) (v := .int en) (C := cn_M) (T := tt_M) (N := 17) hx hb ht in_M hown hK hP 0 rfl rfl 11 (by decide) (ht _ tw_3_52) (fun _ h9 => h9) rfl dd_M_eatDigit_5 ?_
  refine lv_icmp_ge (tgt := 27) hx hb dd_M_eatDigit_8 (by decide) (fun c_6 => ?_) (fun c_6 => ?_)
  · have hF := jv_t c_6 hF
    refine lv_iconst (v := 0) hx hb dd_M_eatDigit_27 (by decide) ?_
    subst hQ
    obtain rfl := Option.some.inj hF
    exact W.zret (v := 0) hx hb hr rfl (fun t ht hW => ⟨⟨0, (), rfl, rfl, by rw [ht]; exact hP, va_K.moved hW.alike hK, hD⟩, hS.F ht⟩) hS.2.2 dd_M_eatDigit_28
  · have hF := jv_f c_6 hF
    refine lv_aload_n hx hb dd_M_eatDigit_11 rfl (lv_at hl 0 rfl) ?_
    refine va_get (D := (dC, dI)) (ci := 6) (v := .ref h8) (C := cn_M) (T := tt_M) (N := 17) hx hb ht in_M hown hK hP 0 rfl rfl 9 (by decide) (ht _ tw_3_50) (fun _ h9 => h9) rfl dd_M_eatDigit_12 ?_
    refine lv_aload_n hx hb dd_M_eatDigit_15 rfl (lv_at hl 0 rfl) ?_
    refine va_get (D := (dC, dI)) (ci := 6) (v := .int mt) (C := cn_M) (T := tt_M) (N := 17) hx hb ht in_M hown hK hP 0 rfl rfl 10 (by decide) (ht _ tw_3_51) (fun _ h9 => h9) rfl dd_M_eatDigit_16 ?_
    obtain ⟨g_7, hF⟩ := jv_gi hF
    refine va_cald hx hb hK hP 8 2 rfl rfl (jv_in g_7) dd_M_eatDigit_19 ?_
    refine lv_bipush (v := 48) hx hb dd_M_eatDigit_20 (by decide) ?_
    refine lv_iload_n hx hb dd_M_eatDigit_22 rfl (lv_at hl 1 rfl) ?_
    refine lv_iadd hx hb dd_M_eatDigit_23 ?_
    refine lv_icmp_eq (tgt := 29) hx hb dd_M_eatDigit_24 (by decide) (fun c_8 => ?_) (fun c_8 => ?_)
    · have hF := jv_t c_8 hF
      refine lv_aload_n hx hb dd_M_eatDigit_29 rfl (lv_at hl 0 rfl) ?_
      refine lv_dup hx hb dd_M_eatDigit_30 rfl ?_
      refine va_get (D := (dC, dI)) (ci := 6) (v := .int mt) (C := cn_M) (T := tt_M) (N := 17) hx hb ht in_M hown hK hP 0 rfl rfl 10 (by decide) (ht _ tw_3_51) (fun _ h9 => h9) rfl dd_M_eatDigit_31 ?_
      refine lv_iconst (v := 1) hx hb dd_M_eatDigit_34 (by decide) ?_
      refine lv_iadd hx hb dd_M_eatDigit_35 ?_
      refine va_put (D := (dC, dI)) (ci := 6) (v := .int (mt + 1)) (ty := .int) (C := cn_M) (T := tt_M) (N := 17) hx hb ht in_M ty_M tyok_M nm_M hown hK hP hD hS 0 rfl rfl 10 (by decide) (ht _ tw_3_51) (fun _ h9 => h9) rfl (by decide +kernel) rfl rfl (Nat.le_of_ble_eq_true rfl) dd_M_eatDigit_36 (fun H_9 locs_10 hP hD hS => ?_)
      have hP : va_P (dC, dI) vwCl [(h0, .inr (6, [.int bg, .ref h1, .ref h2, .ref h3, .ref h4, .ref h5, .ref h6, .ref h7, .int ln, .ref h8, .int (mt + 1), .int en, .int sx, .int pl, .int ov, .int tk, .ref h9])), (h1, .inl (cC, 6, .inl na)), (h2, .inl (cI, 2, .inl cu)), (h3, .inl (cI, 48, .inl pa)), (h4, .inl (cI, 48, .inl re)), (h5, .inl (cZ, 48, .inl cl)), (h6, .inl (cI, 48, .inl si)), (h7, .inl (cC, 288, .inl lt)), (h8, .inl (cC, 3000, .inl pg)), (h9, .inl (cC, 6, .inl rd))] H_9 := hP
      have hD : va_D A [(h0, .inr (6, [.int bg, .ref h1, .ref h2, .ref h3, .ref h4, .ref h5, .ref h6, .ref h7, .int ln, .ref h8, .int (mt + 1), .int en, .int sx, .int pl, .int ov, .int tk, .ref h9])), (h1, .inl (cC, 6, .inl na)), (h2, .inl (cI, 2, .inl cu)), (h3, .inl (cI, 48, .inl pa)), (h4, .inl (cI, 48, .inl re)), (h5, .inl (cZ, 48, .inl cl)), (h6, .inl (cI, 48, .inl si)), (h7, .inl (cC, 288, .inl lt)), (h8, .inl (cC, 3000, .inl pg)), (h9, .inl (cC, 6, .inl rd))] := hD
      refine lv_iconst (v := 1) hx hb dd_M_eatDigit_39 (by decide) ?_
      subst hQ
      obtain rfl := Option.some.inj hF
      exact W.zret (v := 1) hx hb hr rfl (fun t ht hW => ⟨⟨1, (), rfl, rfl, by rw [ht]; exact hP, va_K.moved hW.alike hK, hD⟩, hS.F ht⟩) hS.2.2 dd_M_eatDigit_40
    · have hF := jv_f c_8 hF
      refine lv_iconst (v := 0) hx hb dd_M_eatDigit_27 (by decide) ?_
      subst hQ
      obtain rfl := Option.some.inj hF
      exact W.zret (v := 0) hx hb hr rfl (fun t ht hW => ⟨⟨0, (), rfl, rfl, by rw [ht]; exact hP, va_K.moved hW.alike hK, hD⟩, hS.F ht⟩) hS.2.2 dd_M_eatDigit_28
set_option maxHeartbeats 40000000 in
set_option maxRecDepth 100000 in
theorem c_M_eatNumber (l : Launch) (dC : Nat → ClassId) (dI : Nat → Nat → Nat) (cI cL cC cZ : ClassId) (h0 h1 h2 h3 h4 h5 h6 h7 h8 h9 : Nat) (sz : Nat) (bg : Int32) (ln : Int32) (mt : Int32) (en : Int32) (sx : Int32) (pl : Int32) (ov : Int32) (tk : Int32) (na : Nat → Int32) (cu : Nat → Int32) (pa : Nat → Int32) (re : Nat → Int32) (cl : Nat → Int32) (si : Nat → Int32) (lt : Nat → Int32) (pg : Nat → Int32) (rd : Nat → Int32) (x1 : Int32) (out : Int32 × Int32) (hF : fn_M_eatNumber en pg mt x1 = some out) : Met l yy_M_eatNumber ws_M_eatNumber { frames := 1, cells := 0, slots := 0, locals := 21 } (mP_ (dC, dI) (tk_ cI cL cC cZ) [(h0, .inr (6, [.int bg, .ref h1, .ref h2, .ref h3, .ref h4, .ref h5, .ref h6, .ref h7, .int ln, .ref h8, .int mt, .int en, .int sx, .int pl, .int ov, .int tk, .ref h9])), (h1, .inl (cC, 6, .inl na)), (h2, .inl (cI, 2, .inl cu)), (h3, .inl (cI, 48, .inl pa)), (h4, .inl (cI, 48, .inl re)), (h5, .inl (cZ, 48, .inl cl)), (h6, .inl (cI, 48, .inl si)), (h7, .inl (cC, 288, .inl lt)), (h8, .inl (cC, 3000, .inl pg)), (h9, .inl (cC, 6, .inl rd))] sz [.ref h0, .int x1]) (va_Qi (fun r (_ : Unit) => r = out.1) (mB_ (dC, dI) (tk_ cI cL cC cZ) [(h0, .inr (6, [.int bg, .ref h1, .ref h2, .ref h3, .ref h4, .ref h5, .ref h6, .ref h7, .int ln, .ref h8, .int out.2, .int en, .int sx, .int pl, .int ov, .int tk, .ref h9])), (h1, .inl (cC, 6, .inl na)), (h2, .inl (cI, 2, .inl cu)), (h3, .inl (cI, 48, .inl pa)), (h4, .inl (cI, 48, .inl re)), (h5, .inl (cZ, 48, .inl cl)), (h6, .inl (cI, 48, .inl si)), (h7, .inl (cC, 288, .inl lt)), (h8, .inl (cC, 3000, .inl pg)), (h9, .inl (cC, 6, .inl rd))] (va_A [(h0, .inr (6, [.int bg, .ref h1, .ref h2, .ref h3, .ref h4, .ref h5, .ref h6, .ref h7, .int ln, .ref h8, .int mt, .int en, .int sx, .int pl, .int ov, .int tk, .ref h9])), (h1, .inl (cC, 6, .inl na)), (h2, .inl (cI, 2, .inl cu)), (h3, .inl (cI, 48, .inl pa)), (h4, .inl (cI, 48, .inl re)), (h5, .inl (cZ, 48, .inl cl)), (h6, .inl (cI, 48, .inl si)), (h7, .inl (cC, 288, .inl lt)), (h8, .inl (cC, 3000, .inl pg)), (h9, .inl (cC, 6, .inl rd))] sz)) (va_A [(h0, .inr (6, [.int bg, .ref h1, .ref h2, .ref h3, .ref h4, .ref h5, .ref h6, .ref h7, .int ln, .ref h8, .int mt, .int en, .int sx, .int pl, .int ov, .int tk, .ref h9])), (h1, .inl (cC, 6, .inl na)), (h2, .inl (cI, 2, .inl cu)), (h3, .inl (cI, 48, .inl pa)), (h4, .inl (cI, 48, .inl re)), (h5, .inl (cZ, 48, .inl cl)), (h6, .inl (cI, 48, .inl si)), (h7, .inl (cC, 288, .inl lt)), (h8, .inl (cC, 3000, .inl pg)), (h9, .inl (cC, 6, .inl rd))] sz)) 0 0 (va_A [(h0, .inr (6, [.int bg, .ref h1, .ref h2, .ref h3, .ref h4, .ref h5, .ref h6, .ref h7, .int ln, .ref h8, .int mt, .int en, .int sx, .int pl, .int ov, .int tk, .ref h9])), (h1, .inl (cC, 6, .inl na)), (h2, .inl (cI, 2, .inl cu)), (h3, .inl (cI, 48, .inl pa)), (h4, .inl (cI, 48, .inl re)), (h5, .inl (cZ, 48, .inl cl)), (h6, .inl (cI, 48, .inl si)), (h7, .inl (cC, 288, .inl lt)), (h8, .inl (cC, 3000, .inl pg)), (h9, .inl (cC, 6, .inl rd))] sz) := by
  refine Met.ofW (cc := cc_M_eatNumber) (maxL := 2) (ret := (some .boolean)) (by decide) rfl ?_
  intro p e s m args below meth c s₁ B hml hv
  obtain ⟨hargs, hsz, hP, hK, hD0⟩ := hv
  have hx := B.exec
  have hb := B.bytes
  have hr := B.returns
  have hts := atoms_spec (ws := ws_M_eatNumber) B.pre
  have ht : ∀ w ∈ TB_, w.before args s = true := fun w h => hts w (List.mem_cons_of_mem _ h)
  have hown : s.vm.findClass cn_M = some m.cls := findClass_of_methodNamed B.named
  have hlocks := B.notSynchronized
  subst hsz
  have hD := hD0.self (sz := s.heap.size)
  generalize hAe : va_A [(h0, .inr (6, [.int bg, .ref h1, .ref h2, .ref h3, .ref h4, .ref h5, .ref h6, .ref h7, .int ln, .ref h8, .int mt, .int en, .int sx, .int pl, .int ov, .int tk, .ref h9])), (h1, .inl (cC, 6, .inl na)), (h2, .inl (cI, 2, .inl cu)), (h3, .inl (cI, 48, .inl pa)), (h4, .inl (cI, 48, .inl re)), (h5, .inl (cZ, 48, .inl cl)), (h6, .inl (cI, 48, .inl si)), (h7, .inl (cC, 288, .inl lt)), (h8, .inl (cC, 3000, .inl pg)), (h9, .inl (cC, 6, .inl rd))] s.heap.size = A at hD ⊢
  have hA : ∀ q : Nat, s.heap.size ≤ q → A q := fun q h => by rw [← hAe]; exact Or.inr h
  have hS : va_S A s.heap s.heap [] := va_S.rf
  have hP : va_P (dC, dI) vwCl [(h0, .inr (6, [.int bg, .ref h1, .ref h2, .ref h3, .ref h4, .ref h5, .ref h6, .ref h7, .int ln, .ref h8, .int mt, .int en, .int sx, .int pl, .int ov, .int tk, .ref h9])), (h1, .inl (cC, 6, .inl na)), (h2, .inl (cI, 2, .inl cu)), (h3, .inl (cI, 48, .inl pa)), (h4, .inl (cI, 48, .inl re)), (h5, .inl (cZ, 48, .inl cl)), (h6, .inl (cI, 48, .inl si)), (h7, .inl (cC, 288, .inl lt)), (h8, .inl (cC, 3000, .inl pg)), (h9, .inl (cC, 6, .inl rd))] s.heap := hP
  have hl := lv_entry [.ref h0, .int x1] (n := 2) (Nat.le_of_ble_eq_true rfl)
  have he : entryFrame m args 2 = _ := (congrArg (fun a => entryFrame m a 2) hargs).trans (lg_entry_eq m [.ref h0, .int x1] 2)
  rw [he]
  generalize (lg_sl [.ref h0, .int x1] ++ List.replicate (2 - (lg_sl [.ref h0, .int x1]).length) Slot.unset).toArray = ls at hl ⊢
  have hl : lv_has ls 2 [(0, .ref h0), (1, .int x1)] := hl
  generalize hQ : MQ below _ args s _ _ _ = Q
  have bl17 : ∀ (mt : Int32) (x1 : Int32), fb_M_eatNumber_17 en pg  mt x1 = some out → ∀ (H : Heap) (locs : List Loc), va_P (dC, dI) vwCl [(h0, .inr (6, [.int bg, .ref h1, .ref h2, .ref h3, .ref h4, .ref h5, .ref h6, .ref h7, .int ln, .ref h8, .int mt, .int en, .int sx, .int pl, .int ov, .int tk, .ref h9])), (h1, .inl (cC, 6, .inl na)), (h2, .inl (cI, 2, .inl cu)), (h3, .inl (cI, 48, .inl pa)), (h4, .inl (cI, 48, .inl re)), (h5, .inl (cZ, 48, .inl cl)), (h6, .inl (cI, 48, .inl si)), (h7, .inl (cC, 288, .inl lt)), (h8, .inl (cC, 3000, .inl pg)), (h9, .inl (cC, 6, .inl rd))] H → va_D A [(h0, .inr (6, [.int bg, .ref h1, .ref h2, .ref h3, .ref h4, .ref h5, .ref h6, .ref h7, .int ln, .ref h8, .int mt, .int en, .int sx, .int pl, .int ov, .int tk, .ref h9])), (h1, .inl (cC, 6, .inl na)), (h2, .inl (cI, 2, .inl cu)), (h3, .inl (cI, 48, .inl pa)), (h4, .inl (cI, 48, .inl re)), (h5, .inl (cZ, 48, .inl cl)), (h6, .inl (cI, 48, .inl si)), (h7, .inl (cC, 288, .inl lt)), (h8, .inl (cC, 3000, .inl pg)), (h9, .inl (cC, 6, .inl rd))] → va_S A s.heap H locs → ∀ ls : Array Slot, lv_has ls 2 [(0, .ref h0), (1, .int x1)] → W p l e (headSpec ws_M_eatNumber { frames := 1, cells := 0, slots := 0, locals := 21 }).room s m args below meth c H locs 0 0 Q (F0 m 17 ls []) := by
    intro mt x1 hF H locs hP hD hS ls hl
    unfold fb_M_eatNumber_17 at hF
    refine lv_aload_n hx hb dd_M_eatNumber_17 rfl (lv_at hl 0 rfl) ?_
    refine lv_iload_n hx hb dd_M_eatNumber_18 rfl (lv_at hl 1 rfl) ?_
    refine lv_bipush (v := 10) hx hb dd_M_eatNumber_19 (by decide) ?_
    refine lv_irem hx hb dd_M_eatNumber_21 (by decide) ?_
    obtain ⟨o_22, ho_22, hF⟩ := jv_bi hF
    refine jv_mi (wr := []) (w1 := [(h0, .inr (6, [.int bg, .ref h1, .ref h2, .ref h3, .ref h4, .ref h5, .ref h6, .ref h7, .int ln, .ref h8, .int o_22.2, .int en, .int sx, .int pl, .int ov, .int tk, .ref h9])), (h1, .inl (cC, 6, .inl na)), (h2, .inl (cI, 2, .inl cu)), (h3, .inl (cI, 48, .inl pa)), (h4, .inl (cI, 48, .inl re)), (h5, .inl (cZ, 48, .inl cl)), (h6, .inl (cI, 48, .inl si)), (h7, .inl (cC, 288, .inl lt)), (h8, .inl (cC, 3000, .inl pg)), (h9, .inl (cC, 6, .inl rd))]) (va_runV (C := cn_M) (As := [.int (x1 - x1 / 10 * 10)]) (rest := []) ⟨hx, hb, hml, hown, ht⟩ (c_M_eatDigit l dC dI cI cL cC cZ h0 h1 h2 h3 h4 h5 h6 h7 h8 h9 H.size bg ln mt en sx pl ov tk na cu pa re cl si lt pg rd (x1 - x1 / 10 * 10) _ ho_22) (cwV 1 ht (gi_V tw_3_237 tw_3_239 tw_p_34 tw_1_4 tw_4_0) rfl rfl rfl (by decide +kernel) ⟨Nat.le_of_ble_eq_true rfl, Nat.le_of_ble_eq_true rfl⟩) (jv_pv hK hP hD [0, 1, 2, 3, 4, 5, 6, 7, 8, 9] rfl (by decide) rfl (va_recv hK hP (ci := 6) (q0 := 0) rfl rfl)) rfl rfl hl.1 rfl (lv_room (Nat.le_of_ble_eq_true rfl)) dd_M_eatNumber_22 ⟨Nat.le_of_ble_eq_true rfl, Nat.le_of_ble_eq_true rfl⟩) hP hD hS hA [0, 1, 2, 3, 4, 5, 6, 7, 8, 9] [] rfl rfl (by decide) (by decide) (fun H_8 locs_9 hP hD hS => ?_)
    have hP : va_P (dC, dI) vwCl [(h0, .inr (6, [.int bg, .ref h1, .ref h2, .ref h3, .ref h4, .ref h5, .ref h6, .ref h7, .int ln, .ref h8, .int o_22.2, .int en, .int sx, .int pl, .int ov, .int tk, .ref h9])), (h1, .inl (cC, 6, .inl na)), (h2, .inl (cI, 2, .inl cu)), (h3, .inl (cI, 48, .inl pa)), (h4, .inl (cI, 48, .inl re)), (h5, .inl (cZ, 48, .inl cl)), (h6, .inl (cI, 48, .inl si)), (h7, .inl (cC, 288, .inl lt)), (h8, .inl (cC, 3000, .inl pg)), (h9, .inl (cC, 6, .inl rd))] H_8 := hP.sub [0, 1, 2, 3, 4, 5, 6, 7, 8, 9] rfl
    have hD : va_D A [(h0, .inr (6, [.int bg, .ref h1, .ref h2, .ref h3, .ref h4, .ref h5, .ref h6, .ref h7, .int ln, .ref h8, .int o_22.2, .int en, .int sx, .int pl, .int ov, .int tk, .ref h9])), (h1, .inl (cC, 6, .inl na)), (h2, .inl (cI, 2, .inl cu)), (h3, .inl (cI, 48, .inl pa)), (h4, .inl (cI, 48, .inl re)), (h5, .inl (cZ, 48, .inl cl)), (h6, .inl (cI, 48, .inl si)), (h7, .inl (cC, 288, .inl lt)), (h8, .inl (cC, 3000, .inl pg)), (h9, .inl (cC, 6, .inl rd))] := hD.sub [0, 1, 2, 3, 4, 5, 6, 7, 8, 9] (by decide) rfl
    refine lv_if_eq (tgt := 32) hx hb dd_M_eatNumber_25 (by decide) (fun c_10 => ?_) (fun c_10 => ?_)
    · have hF := jv_t c_10 hF
      refine lv_iconst (v := 0) hx hb dd_M_eatNumber_32 (by decide) ?_
      subst hQ
      obtain rfl := Option.some.inj hF
      exact W.zret (v := 0) hx hb hr rfl (fun t ht hW => ⟨⟨0, (), rfl, rfl, by rw [ht]; exact hP, va_K.moved hW.alike hK, hD⟩, hS.F ht⟩) hS.2.2 dd_M_eatNumber_33
    · have hF := jv_f c_10 hF
      refine lv_iconst (v := 1) hx hb dd_M_eatNumber_28 (by decide) ?_
      refine lv_goto (tgt := 33) hx hb dd_M_eatNumber_29 (by decide) ?_
      subst hQ
      obtain rfl := Option.some.inj hF
      exact W.zret (v := 1) hx hb hr rfl (fun t ht hW => ⟨⟨1, (), rfl, rfl, by rw [ht]; exact hP, va_K.moved hW.alike hK, hD⟩, hS.F ht⟩) hS.2.2 dd_M_eatNumber_33
  unfold fn_M_eatNumber at hF
  refine lv_iload_n hx hb dd_M_eatNumber_0 rfl (lv_at hl 1 rfl) ?_
  refine lv_bipush (v := 10) hx hb dd_M_eatNumber_1 (by decide) ?_
  refine lv_icmp_lt (tgt := 17) hx hb dd_M_eatNumber_3 (by decide) (fun c_11 => ?_) (fun c_11 => ?_)
  · have hF := jv_t c_11 hF
    exact bl17 mt x1 hF s.heap [] hP hD hS ls (lv_sub hl [0, 1] rfl)
  · have hF := jv_f c_11 hF
    refine lv_aload_n hx hb dd_M_eatNumber_6 rfl (lv_at hl 0 rfl) ?_
    refine lv_iload_n hx hb dd_M_eatNumber_7 rfl (lv_at hl 1 rfl) ?_
    refine lv_bipush (v := 10) hx hb dd_M_eatNumber_8 (by decide) ?_
    refine lv_idiv hx hb dd_M_eatNumber_10 (by decide) ?_
    obtain ⟨o_11, ho_11, hF⟩ := jv_bi hF
    refine jv_mi (wr := []) (w1 := [(h0, .inr (6, [.int bg, .ref h1, .ref h2, .ref h3, .ref h4, .ref h5, .ref h6, .ref h7, .int ln, .ref h8, .int o_11.2, .int en, .int sx, .int pl, .int ov, .int tk, .ref h9])), (h1, .inl (cC, 6, .inl na)), (h2, .inl (cI, 2, .inl cu)), (h3, .inl (cI, 48, .inl pa)), (h4, .inl (cI, 48, .inl re)), (h5, .inl (cZ, 48, .inl cl)), (h6, .inl (cI, 48, .inl si)), (h7, .inl (cC, 288, .inl lt)), (h8, .inl (cC, 3000, .inl pg)), (h9, .inl (cC, 6, .inl rd))]) (va_runV (C := cn_M) (As := [.int (x1 / 10)]) (rest := []) ⟨hx, hb, hml, hown, ht⟩ (c_M_eatDigit l dC dI cI cL cC cZ h0 h1 h2 h3 h4 h5 h6 h7 h8 h9 s.heap.size bg ln mt en sx pl ov tk na cu pa re cl si lt pg rd (x1 / 10) _ ho_11) (cwV 1 ht (gi_V tw_3_237 tw_3_239 tw_p_34 tw_1_4 tw_4_0) rfl rfl rfl (by decide +kernel) ⟨Nat.le_of_ble_eq_true rfl, Nat.le_of_ble_eq_true rfl⟩) (jv_pv hK hP hD [0, 1, 2, 3, 4, 5, 6, 7, 8, 9] rfl (by decide) rfl (va_recv hK hP (ci := 6) (q0 := 0) rfl rfl)) rfl rfl hl.1 rfl (lv_room (Nat.le_of_ble_eq_true rfl)) dd_M_eatNumber_11 ⟨Nat.le_of_ble_eq_true rfl, Nat.le_of_ble_eq_true rfl⟩) hP hD hS hA [0, 1, 2, 3, 4, 5, 6, 7, 8, 9] [] rfl rfl (by decide) (by decide) (fun H_12 locs_13 hP hD hS => ?_)
    have hP : va_P (dC, dI) vwCl [(h0, .inr (6, [.int bg, .ref h1, .ref h2, .ref h3, .ref h4, .ref h5, .ref h6, .ref h7, .int ln, .ref h8, .int o_11.2, .int en, .int sx, .int pl, .int ov, .int tk, .ref h9])), (h1, .inl (cC, 6, .inl na)), (h2, .inl (cI, 2, .inl cu)), (h3, .inl (cI, 48, .inl pa)), (h4, .inl (cI, 48, .inl re)), (h5, .inl (cZ, 48, .inl cl)), (h6, .inl (cI, 48, .inl si)), (h7, .inl (cC, 288, .inl lt)), (h8, .inl (cC, 3000, .inl pg)), (h9, .inl (cC, 6, .inl rd))] H_12 := hP.sub [0, 1, 2, 3, 4, 5, 6, 7, 8, 9] rfl
    have hD : va_D A [(h0, .inr (6, [.int bg, .ref h1, .ref h2, .ref h3, .ref h4, .ref h5, .ref h6, .ref h7, .int ln, .ref h8, .int o_11.2, .int en, .int sx, .int pl, .int ov, .int tk, .ref h9])), (h1, .inl (cC, 6, .inl na)), (h2, .inl (cI, 2, .inl cu)), (h3, .inl (cI, 48, .inl pa)), (h4, .inl (cI, 48, .inl re)), (h5, .inl (cZ, 48, .inl cl)), (h6, .inl (cI, 48, .inl si)), (h7, .inl (cC, 288, .inl lt)), (h8, .inl (cC, 3000, .inl pg)), (h9, .inl (cC, 6, .inl rd))] := hD.sub [0, 1, 2, 3, 4, 5, 6, 7, 8, 9] (by decide) rfl
    refine lv_if_eq (tgt := 32) hx hb dd_M_eatNumber_14 (by decide) (fun c_14 => ?_) (fun c_14 => ?_)
    · have hF := jv_t c_14 hF
      refine lv_iconst (v := 0) hx hb dd_M_eatNumber_32 (by decide) ?_
      subst hQ
      obtain rfl := Option.some.inj hF
      exact W.zret (v := 0) hx hb hr rfl (fun t ht hW => ⟨⟨0, (), rfl, rfl, by rw [ht]; exact hP, va_K.moved hW.alike hK, hD⟩, hS.F ht⟩) hS.2.2 dd_M_eatNumber_33
    · have hF := jv_f c_14 hF
      exact bl17 o_11.2 x1 hF H_12 locs_13 hP hD hS ls (lv_sub hl [0, 1] rfl)
