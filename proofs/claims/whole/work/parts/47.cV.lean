set_option maxHeartbeats 40000000 in
set_option maxRecDepth 100000 in
theorem c_V_init (l : Launch) (dC : Nat → ClassId) (dI : Nat → Nat → Nat) (cI cL cC cZ : ClassId) (h0 : Nat) (sz : Nat)   (out : Int64 × Int32 × (Nat → Int32) × Int32 × Int32 × Int32 × (Nat → Int32) × (Nat → Int32) × (Nat → Int32) × (Nat → Int64) × Int32 × Int32 × Int32 × (Nat → Int32) × (Nat → Int32) × (Nat → Int32) × (Nat → Int64)) (hF : fn_V_init  = some out) : Met l yy_V_init ws_V_init { frames := 2, cells := 12, slots := 3208, locals := 32 } (mN_ (dC, dI) (tk_ cI cL cC cZ) [(h0, .inr (5, [.null, .null, .null, .long 0]))] sz [.ref h0]) (va_Qv (fun _ : Nat × Nat × Nat × Nat × Nat × Nat × Nat × Nat × Nat × Nat × Nat × Nat => True) (mU_ (dC, dI) (tk_ cI cL cC cZ) (fun u : Nat × Nat × Nat × Nat × Nat × Nat × Nat × Nat × Nat × Nat × Nat × Nat => [(h0, .inr (5, [.ref u.1, .ref u.2.2.1, .ref u.2.2.2.2.2.2.2.1, .long out.1])), (u.1, .inr (1, [.ref u.2.1, .int out.2.1])), (u.2.1, .inl (cC, 3000, .inl out.2.2.1)), (u.2.2.1, .inr (0, [.ref u.2.2.2.1, .ref u.2.2.2.2.1, .ref u.2.2.2.2.2.1, .ref u.2.2.2.2.2.2.1, .int out.2.2.2.1, .int out.2.2.2.2.1, .int out.2.2.2.2.2.1])), (u.2.2.2.1, .inl (cI, 24, .inl out.2.2.2.2.2.2.1)), (u.2.2.2.2.1, .inl (cI, 24, .inl out.2.2.2.2.2.2.2.1)), (u.2.2.2.2.2.1, .inl (cI, 24, .inl out.2.2.2.2.2.2.2.2.1)), (u.2.2.2.2.2.2.1, .inl (cL, 24, .inr (.inl out.2.2.2.2.2.2.2.2.2.1))), (u.2.2.2.2.2.2.2.1, .inr (0, [.ref u.2.2.2.2.2.2.2.2.1, .ref u.2.2.2.2.2.2.2.2.2.1, .ref u.2.2.2.2.2.2.2.2.2.2.1, .ref u.2.2.2.2.2.2.2.2.2.2.2, .int out.2.2.2.2.2.2.2.2.2.2.1, .int out.2.2.2.2.2.2.2.2.2.2.2.1, .int out.2.2.2.2.2.2.2.2.2.2.2.2.1])), (u.2.2.2.2.2.2.2.2.1, .inl (cI, 24, .inl out.2.2.2.2.2.2.2.2.2.2.2.2.2.1)), (u.2.2.2.2.2.2.2.2.2.1, .inl (cI, 24, .inl out.2.2.2.2.2.2.2.2.2.2.2.2.2.2.1)), (u.2.2.2.2.2.2.2.2.2.2.1, .inl (cI, 24, .inl out.2.2.2.2.2.2.2.2.2.2.2.2.2.2.2.1)), (u.2.2.2.2.2.2.2.2.2.2.2, .inl (cL, 24, .inr (.inl out.2.2.2.2.2.2.2.2.2.2.2.2.2.2.2.2)))]) (va_A [(h0, .inr (5, [.null, .null, .null, .long 0]))] sz)) (va_A [(h0, .inr (5, [.null, .null, .null, .long 0]))] sz)) 12 3208 (va_A [(h0, .inr (5, [.null, .null, .null, .long 0]))] sz) := by
  refine Met.ofW (cc := cc_V_init) (maxL := 1) (ret := none) (by decide) rfl ?_
  intro p e s m args below meth c s₁ B hml hv
  obtain ⟨hargs, hsz, hP, hK, hD0, hN1, hN2⟩ := hv
  have hx := B.exec
  have hb := B.bytes
  have hr := B.returns
  have hts := atoms_spec (ws := ws_V_init) B.pre
  have ht : ∀ w ∈ TB_, w.before args s = true := fun w h => hts w (List.mem_cons_of_mem _ h)
  have hown : s.vm.findClass cn_V = some m.cls := findClass_of_methodNamed B.named
  have hlocks := B.notSynchronized
  have hin : meth.name = "<init>" := (name_of_methodNamed B.named B.method).1
  subst hsz
  have hD := hD0.self (sz := s.heap.size)
  generalize hAe : va_A [(h0, .inr (5, [.null, .null, .null, .long 0]))] s.heap.size = A at hD ⊢
  have hA : ∀ q : Nat, s.heap.size ≤ q → A q := fun q h => by rw [← hAe]; exact Or.inr h
  have hS : va_S A s.heap s.heap [] := va_S.rf
  have hP : va_P (dC, dI) vwCl [(h0, .inr (5, [.null, .null, .null, .long 0]))] s.heap := hP
  have hl := lv_entry [.ref h0] (n := 1) (Nat.le_of_ble_eq_true rfl)
  have he : entryFrame m args 1 = _ := (congrArg (fun a => entryFrame m a 1) hargs).trans (lg_entry_eq m [.ref h0] 1)
  rw [he]
  generalize (lg_sl [.ref h0] ++ List.replicate (1 - (lg_sl [.ref h0]).length) Slot.unset).toArray = ls at hl ⊢
  have hl : lv_has ls 1 [(0, .ref h0)] := hl
  generalize hQ : MQ below _ args s _ _ _ = Q
  unfold fn_V_init at hF
  refine lv_aload_n hx hb dd_V_init_0 rfl (lv_at hl 0 rfl) ?_
  refine W.objInit hx hb hown (ht _ tw_1_18) (ht _ tw_1_19) (ht _ tw_1_20) rfl (by rw [hml]; exact hl.1) rfl dd_V_init_1 (Nat.le_of_ble_eq_true rfl) (Nat.le_of_ble_eq_true rfl) ?_
  refine W.eq (g2 := F0 m 4 ls []) rfl ?_
  refine lv_aload_n hx hb dd_V_init_4 rfl (lv_at hl 0 rfl) ?_
  refine va_new (ci := 1) (fs := [.null, .int 0]) (C := cn_P) (T := tt_P) (N := 2) hx hb ht in_P ty_P tyok_P hown (ht _ tw_1_21) (ht _ tw_1_22) (ht _ tw_1_2) hK hP hD hS hA rfl (fun j hj => by rcases (show j = 0 ∨ j = 1 by omega) with rfl | rfl <;> rfl) (Nat.le_of_ble_eq_true rfl) (Nat.le_of_ble_eq_true rfl) dd_V_init_5 (fun q_24 H_25 hP hD hS => ?_)
  have hP : va_P (dC, dI) vwCl [(h0, .inr (5, [.null, .null, .null, .long 0])), (q_24, .inr (1, [.null, .int 0]))] H_25 := hP
  have hD : va_D A [(h0, .inr (5, [.null, .null, .null, .long 0])), (q_24, .inr (1, [.null, .int 0]))] := hD
  refine lv_dup hx hb dd_V_init_8 rfl ?_
  obtain ⟨o_9, ho_9, hF⟩ := jv_bi hF
  refine jv_mu (wr := [(h0, .inr (5, [.null, .null, .null, .long 0]))]) (wu := fun u_28 : Nat => [(q_24, .inr (1, [.ref u_28, .int o_9.1])), (u_28, .inl (cC, 3000, .inl o_9.2))]) (va_runIN (As := []) (rest := [.ref q_24, .ref h0]) ⟨hx, hb, hml, hown, ht⟩ (c_P_init l dC dI cI cL cC cZ q_24 H_25.size _ ho_9) ⟨va_cnB 0 ht (gi_I tw_1_25) rfl rfl rfl hN1 (ht _ tw_1_2) (by decide +kernel) ⟨Nat.le_of_ble_eq_true rfl, Nat.le_of_ble_eq_true rfl⟩, rfl, ht _ tw_1_24⟩ (jv_ps hK hP hD [1] rfl (by decide) rfl) rfl rfl hl.1 rfl (lv_room (Nat.le_of_ble_eq_true rfl)) dd_V_init_9 ⟨Nat.le_of_ble_eq_true rfl, Nat.le_of_ble_eq_true rfl⟩) hP hD hS hA [1] [0] rfl rfl (by decide) (by decide) (fun u_28 H_26 locs_27 hP hD hS => ?_)
  obtain ⟨q_24_0, rfl⟩ : ∃ z, z = u_28 := ⟨_, rfl⟩
  have hP : va_P (dC, dI) vwCl [(h0, .inr (5, [.null, .null, .null, .long 0])), (q_24, .inr (1, [.ref q_24_0, .int o_9.1])), (q_24_0, .inl (cC, 3000, .inl o_9.2))] H_26 := hP.sub [0, 1, 2] rfl
  have hD : va_D A [(h0, .inr (5, [.null, .null, .null, .long 0])), (q_24, .inr (1, [.ref q_24_0, .int o_9.1])), (q_24_0, .inl (cC, 3000, .inl o_9.2))] := hD.sub [0, 1, 2] (by decide) rfl
  refine va_putF (D := (dC, dI)) (ci := 5) (v := .ref q_24) (ty := (.object "VerdictPages$Page")) (C := cn_V) (T := tt_V) (N := 4) hx hb ht in_V ty_V tyok_V nm_V hown hK hP hD hS 0 rfl rfl 0 (by decide) (ht _ tw_1_65) (fun _ h9 => h9) rfl hin rfl (by decide +kernel) rfl rfl (Nat.le_of_ble_eq_true rfl) dd_V_init_12 (fun H_29 locs_30 hP hD hS => ?_)
  have hP : va_P (dC, dI) vwCl [(h0, .inr (5, [.ref q_24, .null, .null, .long 0])), (q_24, .inr (1, [.ref q_24_0, .int o_9.1])), (q_24_0, .inl (cC, 3000, .inl o_9.2))] H_29 := hP
  have hD : va_D A [(h0, .inr (5, [.ref q_24, .null, .null, .long 0])), (q_24, .inr (1, [.ref q_24_0, .int o_9.1])), (q_24_0, .inl (cC, 3000, .inl o_9.2))] := hD
  refine lv_aload_n hx hb dd_V_init_15 rfl (lv_at hl 0 rfl) ?_
  refine va_new (ci := 0) (fs := [.null, .null, .null, .null, .int 0, .int 0, .int 0]) (C := cn_R) (T := tt_R) (N := 7) hx hb ht in_R ty_R tyok_R hown (ht _ tw_1_35) (ht _ tw_1_36) (ht _ tw_1_3) hK hP hD hS hA rfl (fun j hj => by rcases (show j = 0 ∨ j = 1 ∨ j = 2 ∨ j = 3 ∨ j = 4 ∨ j = 5 ∨ j = 6 by omega) with rfl | rfl | rfl | rfl | rfl | rfl | rfl <;> rfl) (Nat.le_of_ble_eq_true rfl) (Nat.le_of_ble_eq_true rfl) dd_V_init_16 (fun q_31 H_32 hP hD hS => ?_)
  have hP : va_P (dC, dI) vwCl [(h0, .inr (5, [.ref q_24, .null, .null, .long 0])), (q_24, .inr (1, [.ref q_24_0, .int o_9.1])), (q_24_0, .inl (cC, 3000, .inl o_9.2)), (q_31, .inr (0, [.null, .null, .null, .null, .int 0, .int 0, .int 0]))] H_32 := hP
  have hD : va_D A [(h0, .inr (5, [.ref q_24, .null, .null, .long 0])), (q_24, .inr (1, [.ref q_24_0, .int o_9.1])), (q_24_0, .inl (cC, 3000, .inl o_9.2)), (q_31, .inr (0, [.null, .null, .null, .null, .int 0, .int 0, .int 0]))] := hD
  refine lv_dup hx hb dd_V_init_19 rfl ?_
  obtain ⟨o_20, ho_20, hF⟩ := jv_bi hF
  refine jv_mu (wr := [(h0, .inr (5, [.ref q_24, .null, .null, .long 0])), (q_24, .inr (1, [.ref q_24_0, .int o_9.1])), (q_24_0, .inl (cC, 3000, .inl o_9.2))]) (wu := fun u_35 : Nat × Nat × Nat × Nat => [(q_31, .inr (0, [.ref u_35.1, .ref u_35.2.1, .ref u_35.2.2.1, .ref u_35.2.2.2, .int o_20.1, .int o_20.2.1, .int o_20.2.2.1])), (u_35.1, .inl (cI, 24, .inl o_20.2.2.2.1)), (u_35.2.1, .inl (cI, 24, .inl o_20.2.2.2.2.1)), (u_35.2.2.1, .inl (cI, 24, .inl o_20.2.2.2.2.2.1)), (u_35.2.2.2, .inl (cL, 24, .inr (.inl o_20.2.2.2.2.2.2)))]) (va_runIN (As := []) (rest := [.ref q_31, .ref h0]) ⟨hx, hb, hml, hown, ht⟩ (c_R_init l dC dI cI cL cC cZ q_31 H_32.size _ ho_20) ⟨va_cnB 0 ht (gi_I tw_1_39) rfl rfl rfl hN2 (ht _ tw_1_3) (by decide +kernel) ⟨Nat.le_of_ble_eq_true rfl, Nat.le_of_ble_eq_true rfl⟩, rfl, ht _ tw_1_38⟩ (jv_ps hK hP hD [3] rfl (by decide) rfl) rfl rfl hl.1 rfl (lv_room (Nat.le_of_ble_eq_true rfl)) dd_V_init_20 ⟨Nat.le_of_ble_eq_true rfl, Nat.le_of_ble_eq_true rfl⟩) hP hD hS hA [3] [0, 1, 2] rfl rfl (by decide) (by decide) (fun u_35 H_33 locs_34 hP hD hS => ?_)
  obtain ⟨q_31_0, q_31_1, q_31_2, q_31_3⟩ := u_35
  have hP : va_P (dC, dI) vwCl [(h0, .inr (5, [.ref q_24, .null, .null, .long 0])), (q_24, .inr (1, [.ref q_24_0, .int o_9.1])), (q_24_0, .inl (cC, 3000, .inl o_9.2)), (q_31, .inr (0, [.ref q_31_0, .ref q_31_1, .ref q_31_2, .ref q_31_3, .int o_20.1, .int o_20.2.1, .int o_20.2.2.1])), (q_31_0, .inl (cI, 24, .inl o_20.2.2.2.1)), (q_31_1, .inl (cI, 24, .inl o_20.2.2.2.2.1)), (q_31_2, .inl (cI, 24, .inl o_20.2.2.2.2.2.1)), (q_31_3, .inl (cL, 24, .inr (.inl o_20.2.2.2.2.2.2)))] H_33 := hP.sub [0, 1, 2, 3, 4, 5, 6, 7] rfl
  have hD : va_D A [(h0, .inr (5, [.ref q_24, .null, .null, .long 0])), (q_24, .inr (1, [.ref q_24_0, .int o_9.1])), (q_24_0, .inl (cC, 3000, .inl o_9.2)), (q_31, .inr (0, [.ref q_31_0, .ref q_31_1, .ref q_31_2, .ref q_31_3, .int o_20.1, .int o_20.2.1, .int o_20.2.2.1])), (q_31_0, .inl (cI, 24, .inl o_20.2.2.2.1)), (q_31_1, .inl (cI, 24, .inl o_20.2.2.2.2.1)), (q_31_2, .inl (cI, 24, .inl o_20.2.2.2.2.2.1)), (q_31_3, .inl (cL, 24, .inr (.inl o_20.2.2.2.2.2.2)))] := hD.sub [0, 1, 2, 3, 4, 5, 6, 7] (by decide) rfl
  refine va_put (D := (dC, dI)) (ci := 5) (v := .ref q_31) (ty := (.object "VerdictPages$Report")) (C := cn_V) (T := tt_V) (N := 4) hx hb ht in_V ty_V tyok_V nm_V hown hK hP hD hS 0 rfl rfl 1 (by decide) (ht _ tw_1_66) (fun _ h9 => h9) rfl (by decide +kernel) rfl rfl (Nat.le_of_ble_eq_true rfl) dd_V_init_23 (fun H_36 locs_37 hP hD hS => ?_)
  have hP : va_P (dC, dI) vwCl [(h0, .inr (5, [.ref q_24, .ref q_31, .null, .long 0])), (q_24, .inr (1, [.ref q_24_0, .int o_9.1])), (q_24_0, .inl (cC, 3000, .inl o_9.2)), (q_31, .inr (0, [.ref q_31_0, .ref q_31_1, .ref q_31_2, .ref q_31_3, .int o_20.1, .int o_20.2.1, .int o_20.2.2.1])), (q_31_0, .inl (cI, 24, .inl o_20.2.2.2.1)), (q_31_1, .inl (cI, 24, .inl o_20.2.2.2.2.1)), (q_31_2, .inl (cI, 24, .inl o_20.2.2.2.2.2.1)), (q_31_3, .inl (cL, 24, .inr (.inl o_20.2.2.2.2.2.2)))] H_36 := hP
  have hD : va_D A [(h0, .inr (5, [.ref q_24, .ref q_31, .null, .long 0])), (q_24, .inr (1, [.ref q_24_0, .int o_9.1])), (q_24_0, .inl (cC, 3000, .inl o_9.2)), (q_31, .inr (0, [.ref q_31_0, .ref q_31_1, .ref q_31_2, .ref q_31_3, .int o_20.1, .int o_20.2.1, .int o_20.2.2.1])), (q_31_0, .inl (cI, 24, .inl o_20.2.2.2.1)), (q_31_1, .inl (cI, 24, .inl o_20.2.2.2.2.1)), (q_31_2, .inl (cI, 24, .inl o_20.2.2.2.2.2.1)), (q_31_3, .inl (cL, 24, .inr (.inl o_20.2.2.2.2.2.2)))] := hD
  refine lv_aload_n hx hb dd_V_init_26 rfl (lv_at hl 0 rfl) ?_
  refine va_new (ci := 0) (fs := [.null, .null, .null, .null, .int 0, .int 0, .int 0]) (C := cn_R) (T := tt_R) (N := 7) hx hb ht in_R ty_R tyok_R hown (ht _ tw_1_35) (ht _ tw_1_36) (ht _ tw_1_3) hK hP hD hS hA rfl (fun j hj => by rcases (show j = 0 ∨ j = 1 ∨ j = 2 ∨ j = 3 ∨ j = 4 ∨ j = 5 ∨ j = 6 by omega) with rfl | rfl | rfl | rfl | rfl | rfl | rfl <;> rfl) (Nat.le_of_ble_eq_true rfl) (Nat.le_of_ble_eq_true rfl) dd_V_init_27 (fun q_38 H_39 hP hD hS => ?_)
  have hP : va_P (dC, dI) vwCl [(h0, .inr (5, [.ref q_24, .ref q_31, .null, .long 0])), (q_24, .inr (1, [.ref q_24_0, .int o_9.1])), (q_24_0, .inl (cC, 3000, .inl o_9.2)), (q_31, .inr (0, [.ref q_31_0, .ref q_31_1, .ref q_31_2, .ref q_31_3, .int o_20.1, .int o_20.2.1, .int o_20.2.2.1])), (q_31_0, .inl (cI, 24, .inl o_20.2.2.2.1)), (q_31_1, .inl (cI, 24, .inl o_20.2.2.2.2.1)), (q_31_2, .inl (cI, 24, .inl o_20.2.2.2.2.2.1)), (q_31_3, .inl (cL, 24, .inr (.inl o_20.2.2.2.2.2.2))), (q_38, .inr (0, [.null, .null, .null, .null, .int 0, .int 0, .int 0]))] H_39 := hP
  have hD : va_D A [(h0, .inr (5, [.ref q_24, .ref q_31, .null, .long 0])), (q_24, .inr (1, [.ref q_24_0, .int o_9.1])), (q_24_0, .inl (cC, 3000, .inl o_9.2)), (q_31, .inr (0, [.ref q_31_0, .ref q_31_1, .ref q_31_2, .ref q_31_3, .int o_20.1, .int o_20.2.1, .int o_20.2.2.1])), (q_31_0, .inl (cI, 24, .inl o_20.2.2.2.1)), (q_31_1, .inl (cI, 24, .inl o_20.2.2.2.2.1)), (q_31_2, .inl (cI, 24, .inl o_20.2.2.2.2.2.1)), (q_31_3, .inl (cL, 24, .inr (.inl o_20.2.2.2.2.2.2))), (q_38, .inr (0, [.null, .null, .null, .null, .int 0, .int 0, .int 0]))] := hD
  refine lv_dup hx hb dd_V_init_30 rfl ?_
  obtain ⟨o_31, ho_31, hF⟩ := jv_bi hF
  refine jv_mu (wr := [(h0, .inr (5, [.ref q_24, .ref q_31, .null, .long 0])), (q_24, .inr (1, [.ref q_24_0, .int o_9.1])), (q_24_0, .inl (cC, 3000, .inl o_9.2)), (q_31, .inr (0, [.ref q_31_0, .ref q_31_1, .ref q_31_2, .ref q_31_3, .int o_20.1, .int o_20.2.1, .int o_20.2.2.1])), (q_31_0, .inl (cI, 24, .inl o_20.2.2.2.1)), (q_31_1, .inl (cI, 24, .inl o_20.2.2.2.2.1)), (q_31_2, .inl (cI, 24, .inl o_20.2.2.2.2.2.1)), (q_31_3, .inl (cL, 24, .inr (.inl o_20.2.2.2.2.2.2)))]) (wu := fun u_42 : Nat × Nat × Nat × Nat => [(q_38, .inr (0, [.ref u_42.1, .ref u_42.2.1, .ref u_42.2.2.1, .ref u_42.2.2.2, .int o_31.1, .int o_31.2.1, .int o_31.2.2.1])), (u_42.1, .inl (cI, 24, .inl o_31.2.2.2.1)), (u_42.2.1, .inl (cI, 24, .inl o_31.2.2.2.2.1)), (u_42.2.2.1, .inl (cI, 24, .inl o_31.2.2.2.2.2.1)), (u_42.2.2.2, .inl (cL, 24, .inr (.inl o_31.2.2.2.2.2.2)))]) (va_runIN (As := []) (rest := [.ref q_38, .ref h0]) ⟨hx, hb, hml, hown, ht⟩ (c_R_init l dC dI cI cL cC cZ q_38 H_39.size _ ho_31) ⟨va_cnB 0 ht (gi_I tw_1_39) rfl rfl rfl hN2 (ht _ tw_1_3) (by decide +kernel) ⟨Nat.le_of_ble_eq_true rfl, Nat.le_of_ble_eq_true rfl⟩, rfl, ht _ tw_1_38⟩ (jv_ps hK hP hD [8] rfl (by decide) rfl) rfl rfl hl.1 rfl (lv_room (Nat.le_of_ble_eq_true rfl)) dd_V_init_31 ⟨Nat.le_of_ble_eq_true rfl, Nat.le_of_ble_eq_true rfl⟩) hP hD hS hA [8] [0, 1, 2, 3, 4, 5, 6, 7] rfl rfl (by decide) (by decide) (fun u_42 H_40 locs_41 hP hD hS => ?_)
  obtain ⟨q_38_0, q_38_1, q_38_2, q_38_3⟩ := u_42
  have hP : va_P (dC, dI) vwCl [(h0, .inr (5, [.ref q_24, .ref q_31, .null, .long 0])), (q_24, .inr (1, [.ref q_24_0, .int o_9.1])), (q_24_0, .inl (cC, 3000, .inl o_9.2)), (q_31, .inr (0, [.ref q_31_0, .ref q_31_1, .ref q_31_2, .ref q_31_3, .int o_20.1, .int o_20.2.1, .int o_20.2.2.1])), (q_31_0, .inl (cI, 24, .inl o_20.2.2.2.1)), (q_31_1, .inl (cI, 24, .inl o_20.2.2.2.2.1)), (q_31_2, .inl (cI, 24, .inl o_20.2.2.2.2.2.1)), (q_31_3, .inl (cL, 24, .inr (.inl o_20.2.2.2.2.2.2))), (q_38, .inr (0, [.ref q_38_0, .ref q_38_1, .ref q_38_2, .ref q_38_3, .int o_31.1, .int o_31.2.1, .int o_31.2.2.1])), (q_38_0, .inl (cI, 24, .inl o_31.2.2.2.1)), (q_38_1, .inl (cI, 24, .inl o_31.2.2.2.2.1)), (q_38_2, .inl (cI, 24, .inl o_31.2.2.2.2.2.1)), (q_38_3, .inl (cL, 24, .inr (.inl o_31.2.2.2.2.2.2)))] H_40 := hP.sub [0, 1, 2, 3, 4, 5, 6, 7, 8, 9, 10, 11, 12] rfl
  have hD : va_D A [(h0, .inr (5, [.ref q_24, .ref q_31, .null, .long 0])), (q_24, .inr (1, [.ref q_24_0, .int o_9.1])), (q_24_0, .inl (cC, 3000, .inl o_9.2)), (q_31, .inr (0, [.ref q_31_0, .ref q_31_1, .ref q_31_2, .ref q_31_3, .int o_20.1, .int o_20.2.1, .int o_20.2.2.1])), (q_31_0, .inl (cI, 24, .inl o_20.2.2.2.1)), (q_31_1, .inl (cI, 24, .inl o_20.2.2.2.2.1)), (q_31_2, .inl (cI, 24, .inl o_20.2.2.2.2.2.1)), (q_31_3, .inl (cL, 24, .inr (.inl o_20.2.2.2.2.2.2))), (q_38, .inr (0, [.ref q_38_0, .ref q_38_1, .ref q_38_2, .ref q_38_3, .int o_31.1, .int o_31.2.1, .int o_31.2.2.1])), (q_38_0, .inl (cI, 24, .inl o_31.2.2.2.1)), (q_38_1, .inl (cI, 24, .inl o_31.2.2.2.2.1)), (q_38_2, .inl (cI, 24, .inl o_31.2.2.2.2.2.1)), (q_38_3, .inl (cL, 24, .inr (.inl o_31.2.2.2.2.2.2)))] := hD.sub [0, 1, 2, 3, 4, 5, 6, 7, 8, 9, 10, 11, 12] (by decide) rfl
  refine va_put (D := (dC, dI)) (ci := 5) (v := .ref q_38) (ty := (.object "VerdictPages$Report")) (C := cn_V) (T := tt_V) (N := 4) hx hb ht in_V ty_V tyok_V nm_V hown hK hP hD hS 0 rfl rfl 2 (by decide) (ht _ tw_1_67) (fun _ h9 => h9) rfl (by decide +kernel) rfl rfl (Nat.le_of_ble_eq_true rfl) dd_V_init_34 (fun H_43 locs_44 hP hD hS => ?_)
  have hP : va_P (dC, dI) vwCl [(h0, .inr (5, [.ref q_24, .ref q_31, .ref q_38, .long 0])), (q_24, .inr (1, [.ref q_24_0, .int o_9.1])), (q_24_0, .inl (cC, 3000, .inl o_9.2)), (q_31, .inr (0, [.ref q_31_0, .ref q_31_1, .ref q_31_2, .ref q_31_3, .int o_20.1, .int o_20.2.1, .int o_20.2.2.1])), (q_31_0, .inl (cI, 24, .inl o_20.2.2.2.1)), (q_31_1, .inl (cI, 24, .inl o_20.2.2.2.2.1)), (q_31_2, .inl (cI, 24, .inl o_20.2.2.2.2.2.1)), (q_31_3, .inl (cL, 24, .inr (.inl o_20.2.2.2.2.2.2))), (q_38, .inr (0, [.ref q_38_0, .ref q_38_1, .ref q_38_2, .ref q_38_3, .int o_31.1, .int o_31.2.1, .int o_31.2.2.1])), (q_38_0, .inl (cI, 24, .inl o_31.2.2.2.1)), (q_38_1, .inl (cI, 24, .inl o_31.2.2.2.2.1)), (q_38_2, .inl (cI, 24, .inl o_31.2.2.2.2.2.1)), (q_38_3, .inl (cL, 24, .inr (.inl o_31.2.2.2.2.2.2)))] H_43 := hP
  have hD : va_D A [(h0, .inr (5, [.ref q_24, .ref q_31, .ref q_38, .long 0])), (q_24, .inr (1, [.ref q_24_0, .int o_9.1])), (q_24_0, .inl (cC, 3000, .inl o_9.2)), (q_31, .inr (0, [.ref q_31_0, .ref q_31_1, .ref q_31_2, .ref q_31_3, .int o_20.1, .int o_20.2.1, .int o_20.2.2.1])), (q_31_0, .inl (cI, 24, .inl o_20.2.2.2.1)), (q_31_1, .inl (cI, 24, .inl o_20.2.2.2.2.1)), (q_31_2, .inl (cI, 24, .inl o_20.2.2.2.2.2.1)), (q_31_3, .inl (cL, 24, .inr (.inl o_20.2.2.2.2.2.2))), (q_38, .inr (0, [.ref q_38_0, .ref q_38_1, .ref q_38_2, .ref q_38_3, .int o_31.1, .int o_31.2.1, .int o_31.2.2.1])), (q_38_0, .inl (cI, 24, .inl o_31.2.2.2.1)), (q_38_1, .inl (cI, 24, .inl o_31.2.2.2.2.1)), (q_38_2, .inl (cI, 24, .inl o_31.2.2.2.2.2.1)), (q_38_3, .inl (cL, 24, .inr (.inl o_31.2.2.2.2.2.2)))] := hD
  refine lv_aload_n hx hb dd_V_init_37 rfl (lv_at hl 0 rfl) ?_
  refine lv_lconst (v := 0) hx hb dd_V_init_38 (by decide) ?_
  refine va_put (D := (dC, dI)) (ci := 5) (v := .long 0) (ty := .long) (C := cn_V) (T := tt_V) (N := 4) hx hb ht in_V ty_V tyok_V nm_V hown hK hP hD hS 0 rfl rfl 3 (by decide) (ht _ tw_1_68) (fun _ h9 => h9) rfl (by decide +kernel) rfl rfl (Nat.le_of_ble_eq_true rfl) dd_V_init_39 (fun H_45 locs_46 hP hD hS => ?_)
  have hP : va_P (dC, dI) vwCl [(h0, .inr (5, [.ref q_24, .ref q_31, .ref q_38, .long 0])), (q_24, .inr (1, [.ref q_24_0, .int o_9.1])), (q_24_0, .inl (cC, 3000, .inl o_9.2)), (q_31, .inr (0, [.ref q_31_0, .ref q_31_1, .ref q_31_2, .ref q_31_3, .int o_20.1, .int o_20.2.1, .int o_20.2.2.1])), (q_31_0, .inl (cI, 24, .inl o_20.2.2.2.1)), (q_31_1, .inl (cI, 24, .inl o_20.2.2.2.2.1)), (q_31_2, .inl (cI, 24, .inl o_20.2.2.2.2.2.1)), (q_31_3, .inl (cL, 24, .inr (.inl o_20.2.2.2.2.2.2))), (q_38, .inr (0, [.ref q_38_0, .ref q_38_1, .ref q_38_2, .ref q_38_3, .int o_31.1, .int o_31.2.1, .int o_31.2.2.1])), (q_38_0, .inl (cI, 24, .inl o_31.2.2.2.1)), (q_38_1, .inl (cI, 24, .inl o_31.2.2.2.2.1)), (q_38_2, .inl (cI, 24, .inl o_31.2.2.2.2.2.1)), (q_38_3, .inl (cL, 24, .inr (.inl o_31.2.2.2.2.2.2)))] H_45 := hP
  have hD : va_D A [(h0, .inr (5, [.ref q_24, .ref q_31, .ref q_38, .long 0])), (q_24, .inr (1, [.ref q_24_0, .int o_9.1])), (q_24_0, .inl (cC, 3000, .inl o_9.2)), (q_31, .inr (0, [.ref q_31_0, .ref q_31_1, .ref q_31_2, .ref q_31_3, .int o_20.1, .int o_20.2.1, .int o_20.2.2.1])), (q_31_0, .inl (cI, 24, .inl o_20.2.2.2.1)), (q_31_1, .inl (cI, 24, .inl o_20.2.2.2.2.1)), (q_31_2, .inl (cI, 24, .inl o_20.2.2.2.2.2.1)), (q_31_3, .inl (cL, 24, .inr (.inl o_20.2.2.2.2.2.2))), (q_38, .inr (0, [.ref q_38_0, .ref q_38_1, .ref q_38_2, .ref q_38_3, .int o_31.1, .int o_31.2.1, .int o_31.2.2.1])), (q_38_0, .inl (cI, 24, .inl o_31.2.2.2.1)), (q_38_1, .inl (cI, 24, .inl o_31.2.2.2.2.1)), (q_38_2, .inl (cI, 24, .inl o_31.2.2.2.2.2.1)), (q_38_3, .inl (cL, 24, .inr (.inl o_31.2.2.2.2.2.2)))] := hD
  subst hQ
  obtain rfl := Option.some.inj hF
  have hP := hP.sub (ws' := [(h0, .inr (5, [.ref q_24, .ref q_31, .ref q_38, .long 0])), (q_24, .inr (1, [.ref q_24_0, .int o_9.1])), (q_24_0, .inl (cC, 3000, .inl o_9.2)), (q_31, .inr (0, [.ref q_31_0, .ref q_31_1, .ref q_31_2, .ref q_31_3, .int o_20.1, .int o_20.2.1, .int o_20.2.2.1])), (q_31_0, .inl (cI, 24, .inl o_20.2.2.2.1)), (q_31_1, .inl (cI, 24, .inl o_20.2.2.2.2.1)), (q_31_2, .inl (cI, 24, .inl o_20.2.2.2.2.2.1)), (q_31_3, .inl (cL, 24, .inr (.inl o_20.2.2.2.2.2.2))), (q_38, .inr (0, [.ref q_38_0, .ref q_38_1, .ref q_38_2, .ref q_38_3, .int o_31.1, .int o_31.2.1, .int o_31.2.2.1])), (q_38_0, .inl (cI, 24, .inl o_31.2.2.2.1)), (q_38_1, .inl (cI, 24, .inl o_31.2.2.2.2.1)), (q_38_2, .inl (cI, 24, .inl o_31.2.2.2.2.2.1)), (q_38_3, .inl (cL, 24, .inr (.inl o_31.2.2.2.2.2.2)))]) [0, 1, 2, 3, 4, 5, 6, 7, 8, 9, 10, 11, 12] rfl
  have hD := hD.sub (ws' := [(h0, .inr (5, [.ref q_24, .ref q_31, .ref q_38, .long 0])), (q_24, .inr (1, [.ref q_24_0, .int o_9.1])), (q_24_0, .inl (cC, 3000, .inl o_9.2)), (q_31, .inr (0, [.ref q_31_0, .ref q_31_1, .ref q_31_2, .ref q_31_3, .int o_20.1, .int o_20.2.1, .int o_20.2.2.1])), (q_31_0, .inl (cI, 24, .inl o_20.2.2.2.1)), (q_31_1, .inl (cI, 24, .inl o_20.2.2.2.2.1)), (q_31_2, .inl (cI, 24, .inl o_20.2.2.2.2.2.1)), (q_31_3, .inl (cL, 24, .inr (.inl o_20.2.2.2.2.2.2))), (q_38, .inr (0, [.ref q_38_0, .ref q_38_1, .ref q_38_2, .ref q_38_3, .int o_31.1, .int o_31.2.1, .int o_31.2.2.1])), (q_38_0, .inl (cI, 24, .inl o_31.2.2.2.1)), (q_38_1, .inl (cI, 24, .inl o_31.2.2.2.2.1)), (q_38_2, .inl (cI, 24, .inl o_31.2.2.2.2.2.1)), (q_38_3, .inl (cL, 24, .inr (.inl o_31.2.2.2.2.2.2)))]) [0, 1, 2, 3, 4, 5, 6, 7, 8, 9, 10, 11, 12] (by decide) rfl
  exact W.vret hx hb hr (fun t ht hW => ⟨⟨(q_24, q_24_0, q_31, q_31_0, q_31_1, q_31_2, q_31_3, q_38, q_38_0, q_38_1, q_38_2, q_38_3), rfl, trivial, by rw [ht]; exact hP, va_K.moved hW.alike hK, hD⟩, hS.F ht⟩) hS.2.2 dd_V_init_42
set_option maxHeartbeats 40000000 in
set_option maxRecDepth 100000 in
theorem c_V_reset (l : Launch) (dC : Nat → ClassId) (dI : Nat → Nat → Nat) (cI cL cC cZ : ClassId) (h0 h1 h2 h3 h4 h5 h6 h7 h8 h9 h10 h11 h12 : Nat) (sz : Nat) (bn : Int64) (zp : Int32) (ch : Nat → Int32) (ct : Int32) (lo : Int32) (oc : Int32) (kd : Nat → Int32) (dp : Nat → Int32) (su : Nat → Int32) (nm : Nat → Int64) (ct2 : Int32) (lo2 : Int32) (oc2 : Int32) (kd2 : Nat → Int32) (dp2 : Nat → Int32) (su2 : Nat → Int32) (nm2 : Nat → Int64)  (out : Int32 × Int32 × Int32) (hF : fn_V_reset ct lo oc = some out) : Met l yy_V_reset ws_V_reset { frames := 1, cells := 0, slots := 0, locals := 20 } (mP_ (dC, dI) (tk_ cI cL cC cZ) [(h0, .inr (5, [.ref h1, .ref h3, .ref h8, .long bn])), (h1, .inr (1, [.ref h2, .int zp])), (h2, .inl (cC, 3000, .inl ch)), (h3, .inr (0, [.ref h4, .ref h5, .ref h6, .ref h7, .int ct, .int lo, .int oc])), (h4, .inl (cI, 24, .inl kd)), (h5, .inl (cI, 24, .inl dp)), (h6, .inl (cI, 24, .inl su)), (h7, .inl (cL, 24, .inr (.inl nm))), (h8, .inr (0, [.ref h9, .ref h10, .ref h11, .ref h12, .int ct2, .int lo2, .int oc2])), (h9, .inl (cI, 24, .inl kd2)), (h10, .inl (cI, 24, .inl dp2)), (h11, .inl (cI, 24, .inl su2)), (h12, .inl (cL, 24, .inr (.inl nm2)))] sz [.ref h0]) (va_Qv (fun _ : Unit => True) (mB_ (dC, dI) (tk_ cI cL cC cZ) [(h0, .inr (5, [.ref h1, .ref h3, .ref h8, .long bn])), (h1, .inr (1, [.ref h2, .int zp])), (h2, .inl (cC, 3000, .inl ch)), (h3, .inr (0, [.ref h4, .ref h5, .ref h6, .ref h7, .int out.1, .int out.2.1, .int out.2.2])), (h4, .inl (cI, 24, .inl kd)), (h5, .inl (cI, 24, .inl dp)), (h6, .inl (cI, 24, .inl su)), (h7, .inl (cL, 24, .inr (.inl nm))), (h8, .inr (0, [.ref h9, .ref h10, .ref h11, .ref h12, .int ct2, .int lo2, .int oc2])), (h9, .inl (cI, 24, .inl kd2)), (h10, .inl (cI, 24, .inl dp2)), (h11, .inl (cI, 24, .inl su2)), (h12, .inl (cL, 24, .inr (.inl nm2)))] (va_A [(h0, .inr (5, [.ref h1, .ref h3, .ref h8, .long bn])), (h1, .inr (1, [.ref h2, .int zp])), (h2, .inl (cC, 3000, .inl ch)), (h3, .inr (0, [.ref h4, .ref h5, .ref h6, .ref h7, .int ct, .int lo, .int oc])), (h4, .inl (cI, 24, .inl kd)), (h5, .inl (cI, 24, .inl dp)), (h6, .inl (cI, 24, .inl su)), (h7, .inl (cL, 24, .inr (.inl nm))), (h8, .inr (0, [.ref h9, .ref h10, .ref h11, .ref h12, .int ct2, .int lo2, .int oc2])), (h9, .inl (cI, 24, .inl kd2)), (h10, .inl (cI, 24, .inl dp2)), (h11, .inl (cI, 24, .inl su2)), (h12, .inl (cL, 24, .inr (.inl nm2)))] sz)) (va_A [(h0, .inr (5, [.ref h1, .ref h3, .ref h8, .long bn])), (h1, .inr (1, [.ref h2, .int zp])), (h2, .inl (cC, 3000, .inl ch)), (h3, .inr (0, [.ref h4, .ref h5, .ref h6, .ref h7, .int ct, .int lo, .int oc])), (h4, .inl (cI, 24, .inl kd)), (h5, .inl (cI, 24, .inl dp)), (h6, .inl (cI, 24, .inl su)), (h7, .inl (cL, 24, .inr (.inl nm))), (h8, .inr (0, [.ref h9, .ref h10, .ref h11, .ref h12, .int ct2, .int lo2, .int oc2])), (h9, .inl (cI, 24, .inl kd2)), (h10, .inl (cI, 24, .inl dp2)), (h11, .inl (cI, 24, .inl su2)), (h12, .inl (cL, 24, .inr (.inl nm2)))] sz)) 0 0 (va_A [(h0, .inr (5, [.ref h1, .ref h3, .ref h8, .long bn])), (h1, .inr (1, [.ref h2, .int zp])), (h2, .inl (cC, 3000, .inl ch)), (h3, .inr (0, [.ref h4, .ref h5, .ref h6, .ref h7, .int ct, .int lo, .int oc])), (h4, .inl (cI, 24, .inl kd)), (h5, .inl (cI, 24, .inl dp)), (h6, .inl (cI, 24, .inl su)), (h7, .inl (cL, 24, .inr (.inl nm))), (h8, .inr (0, [.ref h9, .ref h10, .ref h11, .ref h12, .int ct2, .int lo2, .int oc2])), (h9, .inl (cI, 24, .inl kd2)), (h10, .inl (cI, 24, .inl dp2)), (h11, .inl (cI, 24, .inl su2)), (h12, .inl (cL, 24, .inr (.inl nm2)))] sz) := by
  refine Met.ofW (cc := cc_V_reset) (maxL := 1) (ret := none) (by decide) rfl ?_
  intro p e s m args below meth c s₁ B hml hv
  obtain ⟨hargs, hsz, hP, hK, hD0⟩ := hv
  have hx := B.exec
  have hb := B.bytes
  have hr := B.returns
  have hts := atoms_spec (ws := ws_V_reset) B.pre
  have ht : ∀ w ∈ TB_, w.before args s = true := fun w h => hts w (List.mem_cons_of_mem _ h)
  have hown : s.vm.findClass cn_V = some m.cls := findClass_of_methodNamed B.named
  have hlocks := B.notSynchronized
  subst hsz
  have hD := hD0.self (sz := s.heap.size)
  generalize hAe : va_A [(h0, .inr (5, [.ref h1, .ref h3, .ref h8, .long bn])), (h1, .inr (1, [.ref h2, .int zp])), (h2, .inl (cC, 3000, .inl ch)), (h3, .inr (0, [.ref h4, .ref h5, .ref h6, .ref h7, .int ct, .int lo, .int oc])), (h4, .inl (cI, 24, .inl kd)), (h5, .inl (cI, 24, .inl dp)), (h6, .inl (cI, 24, .inl su)), (h7, .inl (cL, 24, .inr (.inl nm))), (h8, .inr (0, [.ref h9, .ref h10, .ref h11, .ref h12, .int ct2, .int lo2, .int oc2])), (h9, .inl (cI, 24, .inl kd2)), (h10, .inl (cI, 24, .inl dp2)), (h11, .inl (cI, 24, .inl su2)), (h12, .inl (cL, 24, .inr (.inl nm2)))] s.heap.size = A at hD ⊢
  have hA : ∀ q : Nat, s.heap.size ≤ q → A q := fun q h => by rw [← hAe]; exact Or.inr h
  have hS : va_S A s.heap s.heap [] := va_S.rf
  have hP : va_P (dC, dI) vwCl [(h0, .inr (5, [.ref h1, .ref h3, .ref h8, .long bn])), (h1, .inr (1, [.ref h2, .int zp])), (h2, .inl (cC, 3000, .inl ch)), (h3, .inr (0, [.ref h4, .ref h5, .ref h6, .ref h7, .int ct, .int lo, .int oc])), (h4, .inl (cI, 24, .inl kd)), (h5, .inl (cI, 24, .inl dp)), (h6, .inl (cI, 24, .inl su)), (h7, .inl (cL, 24, .inr (.inl nm))), (h8, .inr (0, [.ref h9, .ref h10, .ref h11, .ref h12, .int ct2, .int lo2, .int oc2])), (h9, .inl (cI, 24, .inl kd2)), (h10, .inl (cI, 24, .inl dp2)), (h11, .inl (cI, 24, .inl su2)), (h12, .inl (cL, 24, .inr (.inl nm2)))] s.heap := hP
  have hl := lv_entry [.ref h0] (n := 1) (Nat.le_of_ble_eq_true rfl)
  have he : entryFrame m args 1 = _ := (congrArg (fun a => entryFrame m a 1) hargs).trans (lg_entry_eq m [.ref h0] 1)
  rw [he]
  generalize (lg_sl [.ref h0] ++ List.replicate (1 - (lg_sl [.ref h0]).length) Slot.unset).toArray = ls at hl ⊢
  have hl : lv_has ls 1 [(0, .ref h0)] := hl
  generalize hQ : MQ below _ args s _ _ _ = Q
  unfold fn_V_reset at hF
  refine lv_aload_n hx hb dd_V_reset_0 rfl (lv_at hl 0 rfl) ?_
  refine va_get (D := (dC, dI)) (ci := 5) (v := .ref h3) (C := cn_V) (T := tt_V) (N := 4) hx hb ht in_V hown hK hP 0 rfl rfl 1 (by decide) (ht _ tw_1_66) (fun _ h9 => h9) rfl dd_V_reset_1 ?_
  obtain ⟨o_4, ho_4, hF⟩ := jv_bi hF
  refine jv_mv (wr := [(h0, .inr (5, [.ref h1, .ref h3, .ref h8, .long bn])), (h1, .inr (1, [.ref h2, .int zp])), (h2, .inl (cC, 3000, .inl ch)), (h8, .inr (0, [.ref h9, .ref h10, .ref h11, .ref h12, .int ct2, .int lo2, .int oc2])), (h9, .inl (cI, 24, .inl kd2)), (h10, .inl (cI, 24, .inl dp2)), (h11, .inl (cI, 24, .inl su2)), (h12, .inl (cL, 24, .inr (.inl nm2)))]) (w1 := [(h3, .inr (0, [.ref h4, .ref h5, .ref h6, .ref h7, .int o_4.1, .int o_4.2.1, .int o_4.2.2])), (h4, .inl (cI, 24, .inl kd)), (h5, .inl (cI, 24, .inl dp)), (h6, .inl (cI, 24, .inl su)), (h7, .inl (cL, 24, .inr (.inl nm)))]) (va_runV (C := cn_R) (As := []) (rest := []) ⟨hx, hb, hml, hown, ht⟩ (c_R_removeAll l dC dI cI cL cC cZ h3 h4 h5 h6 h7 s.heap.size ct lo oc kd dp su nm _ ho_4) (cwV 0 ht (gi_V tw_1_130 tw_1_131 tw_1_132 tw_1_3 tw_1_133) rfl rfl rfl (by decide +kernel) ⟨Nat.le_of_ble_eq_true rfl, Nat.le_of_ble_eq_true rfl⟩) (jv_pv hK hP hD [3, 4, 5, 6, 7] rfl (by decide) rfl (va_recv hK hP (ci := 0) (q0 := 3) rfl rfl)) rfl rfl hl.1 rfl (lv_room (Nat.le_of_ble_eq_true rfl)) dd_V_reset_4 ⟨Nat.le_of_ble_eq_true rfl, Nat.le_of_ble_eq_true rfl⟩) hP hD hS hA [3, 4, 5, 6, 7] [0, 1, 2, 8, 9, 10, 11, 12] rfl rfl (by decide) (by decide) (fun H_3 locs_4 hP hD hS => ?_)
  have hP : va_P (dC, dI) vwCl [(h0, .inr (5, [.ref h1, .ref h3, .ref h8, .long bn])), (h1, .inr (1, [.ref h2, .int zp])), (h2, .inl (cC, 3000, .inl ch)), (h3, .inr (0, [.ref h4, .ref h5, .ref h6, .ref h7, .int o_4.1, .int o_4.2.1, .int o_4.2.2])), (h4, .inl (cI, 24, .inl kd)), (h5, .inl (cI, 24, .inl dp)), (h6, .inl (cI, 24, .inl su)), (h7, .inl (cL, 24, .inr (.inl nm))), (h8, .inr (0, [.ref h9, .ref h10, .ref h11, .ref h12, .int ct2, .int lo2, .int oc2])), (h9, .inl (cI, 24, .inl kd2)), (h10, .inl (cI, 24, .inl dp2)), (h11, .inl (cI, 24, .inl su2)), (h12, .inl (cL, 24, .inr (.inl nm2)))] H_3 := hP.sub [0, 1, 2, 8, 9, 10, 11, 12, 3, 4, 5, 6, 7] rfl
  have hD : va_D A [(h0, .inr (5, [.ref h1, .ref h3, .ref h8, .long bn])), (h1, .inr (1, [.ref h2, .int zp])), (h2, .inl (cC, 3000, .inl ch)), (h3, .inr (0, [.ref h4, .ref h5, .ref h6, .ref h7, .int o_4.1, .int o_4.2.1, .int o_4.2.2])), (h4, .inl (cI, 24, .inl kd)), (h5, .inl (cI, 24, .inl dp)), (h6, .inl (cI, 24, .inl su)), (h7, .inl (cL, 24, .inr (.inl nm))), (h8, .inr (0, [.ref h9, .ref h10, .ref h11, .ref h12, .int ct2, .int lo2, .int oc2])), (h9, .inl (cI, 24, .inl kd2)), (h10, .inl (cI, 24, .inl dp2)), (h11, .inl (cI, 24, .inl su2)), (h12, .inl (cL, 24, .inr (.inl nm2)))] := hD.sub [0, 1, 2, 8, 9, 10, 11, 12, 3, 4, 5, 6, 7] (by decide) rfl
  subst hQ
  obtain rfl := Option.some.inj hF
  exact W.vret hx hb hr (fun t ht hW => ⟨⟨(), rfl, trivial, by rw [ht]; exact hP, va_K.moved hW.alike hK, hD⟩, hS.F ht⟩) hS.2.2 dd_V_reset_7
set_option maxHeartbeats 40000000 in
set_option maxRecDepth 100000 in
theorem c_V_nodes (l : Launch) (dC : Nat → ClassId) (dI : Nat → Nat → Nat) (cI cL cC cZ : ClassId) (h0 h1 h2 h3 h4 h5 h6 h7 h8 h9 h10 h11 h12 : Nat) (sz : Nat) (bn : Int64) (zp : Int32) (ch : Nat → Int32) (ct : Int32) (lo : Int32) (oc : Int32) (kd : Nat → Int32) (dp : Nat → Int32) (su : Nat → Int32) (nm : Nat → Int64) (ct2 : Int32) (lo2 : Int32) (oc2 : Int32) (kd2 : Nat → Int32) (dp2 : Nat → Int32) (su2 : Nat → Int32) (nm2 : Nat → Int64)  (out : Int32) (hF : fn_V_nodes ct = some out) : Met l yy_V_nodes ws_V_nodes { frames := 1, cells := 0, slots := 0, locals := 20 } (mP_ (dC, dI) (tk_ cI cL cC cZ) [(h0, .inr (5, [.ref h1, .ref h3, .ref h8, .long bn])), (h1, .inr (1, [.ref h2, .int zp])), (h2, .inl (cC, 3000, .inl ch)), (h3, .inr (0, [.ref h4, .ref h5, .ref h6, .ref h7, .int ct, .int lo, .int oc])), (h4, .inl (cI, 24, .inl kd)), (h5, .inl (cI, 24, .inl dp)), (h6, .inl (cI, 24, .inl su)), (h7, .inl (cL, 24, .inr (.inl nm))), (h8, .inr (0, [.ref h9, .ref h10, .ref h11, .ref h12, .int ct2, .int lo2, .int oc2])), (h9, .inl (cI, 24, .inl kd2)), (h10, .inl (cI, 24, .inl dp2)), (h11, .inl (cI, 24, .inl su2)), (h12, .inl (cL, 24, .inr (.inl nm2)))] sz [.ref h0]) (vp_Si (fun r => r = out)) 0 0 (fun _ => False) := by
  refine Met.ofW (cc := cc_V_nodes) (maxL := 1) (ret := (some .int)) (by decide) rfl ?_
  intro p e s m args below meth c s₁ B hml hv
  obtain ⟨hargs, hsz, hP, hK, hD0⟩ := hv
  have hx := B.exec
  have hb := B.bytes
  have hr := B.returns
  have hts := atoms_spec (ws := ws_V_nodes) B.pre
  have ht : ∀ w ∈ TB_, w.before args s = true := fun w h => hts w (List.mem_cons_of_mem _ h)
  have hown : s.vm.findClass cn_V = some m.cls := findClass_of_methodNamed B.named
  have hlocks := B.notSynchronized
  subst hsz
  have hD := hD0.self (sz := s.heap.size)
  generalize hAe : va_A [(h0, .inr (5, [.ref h1, .ref h3, .ref h8, .long bn])), (h1, .inr (1, [.ref h2, .int zp])), (h2, .inl (cC, 3000, .inl ch)), (h3, .inr (0, [.ref h4, .ref h5, .ref h6, .ref h7, .int ct, .int lo, .int oc])), (h4, .inl (cI, 24, .inl kd)), (h5, .inl (cI, 24, .inl dp)), (h6, .inl (cI, 24, .inl su)), (h7, .inl (cL, 24, .inr (.inl nm))), (h8, .inr (0, [.ref h9, .ref h10, .ref h11, .ref h12, .int ct2, .int lo2, .int oc2])), (h9, .inl (cI, 24, .inl kd2)), (h10, .inl (cI, 24, .inl dp2)), (h11, .inl (cI, 24, .inl su2)), (h12, .inl (cL, 24, .inr (.inl nm2)))] s.heap.size = A at hD
  have hA : ∀ q : Nat, s.heap.size ≤ q → A q := fun q h => by rw [← hAe]; exact Or.inr h
  have hS : va_S A s.heap s.heap [] := va_S.rf
  have hP : va_P (dC, dI) vwCl [(h0, .inr (5, [.ref h1, .ref h3, .ref h8, .long bn])), (h1, .inr (1, [.ref h2, .int zp])), (h2, .inl (cC, 3000, .inl ch)), (h3, .inr (0, [.ref h4, .ref h5, .ref h6, .ref h7, .int ct, .int lo, .int oc])), (h4, .inl (cI, 24, .inl kd)), (h5, .inl (cI, 24, .inl dp)), (h6, .inl (cI, 24, .inl su)), (h7, .inl (cL, 24, .inr (.inl nm))), (h8, .inr (0, [.ref h9, .ref h10, .ref h11, .ref h12, .int ct2, .int lo2, .int oc2])), (h9, .inl (cI, 24, .inl kd2)), (h10, .inl (cI, 24, .inl dp2)), (h11, .inl (cI, 24, .inl su2)), (h12, .inl (cL, 24, .inr (.inl nm2)))] s.heap := hP
  have hl := lv_entry [.ref h0] (n := 1) (Nat.le_of_ble_eq_true rfl)
  have he : entryFrame m args 1 = _ := (congrArg (fun a => entryFrame m a 1) hargs).trans (lg_entry_eq m [.ref h0] 1)
  rw [he]
  generalize (lg_sl [.ref h0] ++ List.replicate (1 - (lg_sl [.ref h0]).length) Slot.unset).toArray = ls at hl ⊢
  have hl : lv_has ls 1 [(0, .ref h0)] := hl
  generalize hQ : MQ below _ args s _ _ _ = Q
  unfold fn_V_nodes at hF
  refine lv_aload_n hx hb dd_V_nodes_0 rfl (lv_at hl 0 rfl) ?_
  refine va_get (D := (dC, dI)) (ci := 5) (v := .ref h3) (C := cn_V) (T := tt_V) (N := 4) hx hb ht in_V hown hK hP 0 rfl rfl 1 (by decide) (ht _ tw_1_66) (fun _ h9 => h9) rfl dd_V_nodes_1 ?_
  obtain ⟨o_4, ho_4, hF⟩ := jv_bi hF
  refine jv_ci (va_runV (C := cn_R) (As := []) (rest := []) ⟨hx, hb, hml, hown, ht⟩ (c_R_size l dC dI cI cL cC cZ h3 h4 h5 h6 h7 s.heap.size ct lo oc kd dp su nm _ ho_4) (cwV 0 ht (gi_V tw_1_138 tw_1_139 tw_1_140 tw_1_3 tw_1_141) rfl rfl rfl (by decide +kernel) ⟨Nat.le_of_ble_eq_true rfl, Nat.le_of_ble_eq_true rfl⟩) (jv_pv hK hP hD [3, 4, 5, 6, 7] rfl (by decide) rfl (va_recv hK hP (ci := 0) (q0 := 3) rfl rfl)) rfl rfl hl.1 rfl (lv_room (Nat.le_of_ble_eq_true rfl)) dd_V_nodes_4 ⟨Nat.le_of_ble_eq_true rfl, Nat.le_of_ble_eq_true rfl⟩) ?_
  subst hQ
  exact W.iret (v := o_4) hx hb hr (fun t ht hW => ⟨o_4, rfl, (Option.some.inj hF), ht⟩) (fun _ h => by cases h) dd_V_nodes_7
set_option maxHeartbeats 40000000 in
set_option maxRecDepth 100000 in
theorem c_V_kind (l : Launch) (dC : Nat → ClassId) (dI : Nat → Nat → Nat) (cI cL cC cZ : ClassId) (h0 h1 h2 h3 h4 h5 h6 h7 h8 h9 h10 h11 h12 : Nat) (sz : Nat) (bn : Int64) (zp : Int32) (ch : Nat → Int32) (ct : Int32) (lo : Int32) (oc : Int32) (kd : Nat → Int32) (dp : Nat → Int32) (su : Nat → Int32) (nm : Nat → Int64) (ct2 : Int32) (lo2 : Int32) (oc2 : Int32) (kd2 : Nat → Int32) (dp2 : Nat → Int32) (su2 : Nat → Int32) (nm2 : Nat → Int64) (x1 : Int32) (out : Int32) (hF : fn_V_kind ct kd x1 = some out) : Met l yy_V_kind ws_V_kind { frames := 2, cells := 0, slots := 0, locals := 42 } (mP_ (dC, dI) (tk_ cI cL cC cZ) [(h0, .inr (5, [.ref h1, .ref h3, .ref h8, .long bn])), (h1, .inr (1, [.ref h2, .int zp])), (h2, .inl (cC, 3000, .inl ch)), (h3, .inr (0, [.ref h4, .ref h5, .ref h6, .ref h7, .int ct, .int lo, .int oc])), (h4, .inl (cI, 24, .inl kd)), (h5, .inl (cI, 24, .inl dp)), (h6, .inl (cI, 24, .inl su)), (h7, .inl (cL, 24, .inr (.inl nm))), (h8, .inr (0, [.ref h9, .ref h10, .ref h11, .ref h12, .int ct2, .int lo2, .int oc2])), (h9, .inl (cI, 24, .inl kd2)), (h10, .inl (cI, 24, .inl dp2)), (h11, .inl (cI, 24, .inl su2)), (h12, .inl (cL, 24, .inr (.inl nm2)))] sz [.ref h0, .int x1]) (vp_Si (fun r => r = out)) 0 0 (fun _ => False) := by
  refine Met.ofW (cc := cc_V_kind) (maxL := 2) (ret := (some .int)) (by decide) rfl ?_
  intro p e s m args below meth c s₁ B hml hv
  obtain ⟨hargs, hsz, hP, hK, hD0⟩ := hv
  have hx := B.exec
  have hb := B.bytes
  have hr := B.returns
  have hts := atoms_spec (ws := ws_V_kind) B.pre
  have ht : ∀ w ∈ TB_, w.before args s = true := fun w h => hts w (List.mem_cons_of_mem _ h)
  have hown : s.vm.findClass cn_V = some m.cls := findClass_of_methodNamed B.named
  have hlocks := B.notSynchronized
  subst hsz
  have hD := hD0.self (sz := s.heap.size)
  generalize hAe : va_A [(h0, .inr (5, [.ref h1, .ref h3, .ref h8, .long bn])), (h1, .inr (1, [.ref h2, .int zp])), (h2, .inl (cC, 3000, .inl ch)), (h3, .inr (0, [.ref h4, .ref h5, .ref h6, .ref h7, .int ct, .int lo, .int oc])), (h4, .inl (cI, 24, .inl kd)), (h5, .inl (cI, 24, .inl dp)), (h6, .inl (cI, 24, .inl su)), (h7, .inl (cL, 24, .inr (.inl nm))), (h8, .inr (0, [.ref h9, .ref h10, .ref h11, .ref h12, .int ct2, .int lo2, .int oc2])), (h9, .inl (cI, 24, .inl kd2)), (h10, .inl (cI, 24, .inl dp2)), (h11, .inl (cI, 24, .inl su2)), (h12, .inl (cL, 24, .inr (.inl nm2)))] s.heap.size = A at hD
  have hA : ∀ q : Nat, s.heap.size ≤ q → A q := fun q h => by rw [← hAe]; exact Or.inr h
  have hS : va_S A s.heap s.heap [] := va_S.rf
  have hP : va_P (dC, dI) vwCl [(h0, .inr (5, [.ref h1, .ref h3, .ref h8, .long bn])), (h1, .inr (1, [.ref h2, .int zp])), (h2, .inl (cC, 3000, .inl ch)), (h3, .inr (0, [.ref h4, .ref h5, .ref h6, .ref h7, .int ct, .int lo, .int oc])), (h4, .inl (cI, 24, .inl kd)), (h5, .inl (cI, 24, .inl dp)), (h6, .inl (cI, 24, .inl su)), (h7, .inl (cL, 24, .inr (.inl nm))), (h8, .inr (0, [.ref h9, .ref h10, .ref h11, .ref h12, .int ct2, .int lo2, .int oc2])), (h9, .inl (cI, 24, .inl kd2)), (h10, .inl (cI, 24, .inl dp2)), (h11, .inl (cI, 24, .inl su2)), (h12, .inl (cL, 24, .inr (.inl nm2)))] s.heap := hP
  have hl := lv_entry [.ref h0, .int x1] (n := 2) (Nat.le_of_ble_eq_true rfl)
  have he : entryFrame m args 2 = _ := (congrArg (fun a => entryFrame m a 2) hargs).trans (lg_entry_eq m [.ref h0, .int x1] 2)
  rw [he]
  generalize (lg_sl [.ref h0, .int x1] ++ List.replicate (2 - (lg_sl [.ref h0, .int x1]).length) Slot.unset).toArray = ls at hl ⊢
  have hl : lv_has ls 2 [(0, .ref h0), (1, .int x1)] := hl
  generalize hQ : MQ below _ args s _ _ _ = Q
  unfold fn_V_kind at hF
  refine lv_aload_n hx hb dd_V_kind_0 rfl (lv_at hl 0 rfl) ?_
  refine va_get (D := (dC, dI)) (ci := 5) (v := .ref h3) (C := cn_V) (T := tt_V) (N := 4) hx hb ht in_V hown hK hP 0 rfl rfl 1 (by decide) (ht _ tw_1_66) (fun _ h9 => h9) rfl dd_V_kind_1 ?_
  refine lv_iload_n hx hb dd_V_kind_4 rfl (lv_at hl 1 rfl) ?_
  obtain ⟨o_5, ho_5, hF⟩ := jv_bi hF
  refine jv_ci (va_runV (C := cn_R) (As := [.int x1]) (rest := []) ⟨hx, hb, hml, hown, ht⟩ (c_R_has l dC dI cI cL cC cZ h3 h4 h5 h6 h7 s.heap.size ct lo oc kd dp su nm x1 _ ho_5) (cwV 1 ht (gi_V tw_1_146 tw_1_115 tw_1_116 tw_1_3 tw_1_117) rfl rfl rfl (by decide +kernel) ⟨Nat.le_of_ble_eq_true rfl, Nat.le_of_ble_eq_true rfl⟩) (jv_pv hK hP hD [3, 4, 5, 6, 7] rfl (by decide) rfl (va_recv hK hP (ci := 0) (q0 := 3) rfl rfl)) rfl rfl hl.1 rfl (lv_room (Nat.le_of_ble_eq_true rfl)) dd_V_kind_5 ⟨Nat.le_of_ble_eq_true rfl, Nat.le_of_ble_eq_true rfl⟩) ?_
  refine lv_if_eq (tgt := 22) hx hb dd_V_kind_8 (by decide) (fun c_2 => ?_) (fun c_2 => ?_)
  · have hF := jv_t c_2 hF
    refine lv_iconst (v := (-1)) hx hb dd_V_kind_22 (by decide) ?_
    subst hQ
    exact W.iret (v := (-1)) hx hb hr (fun t ht hW => ⟨(-1), rfl, (Option.some.inj hF), ht⟩) (fun _ h => by cases h) dd_V_kind_23
  · have hF := jv_f c_2 hF
    refine lv_aload_n hx hb dd_V_kind_11 rfl (lv_at hl 0 rfl) ?_
    refine va_get (D := (dC, dI)) (ci := 5) (v := .ref h3) (C := cn_V) (T := tt_V) (N := 4) hx hb ht in_V hown hK hP 0 rfl rfl 1 (by decide) (ht _ tw_1_66) (fun _ h9 => h9) rfl dd_V_kind_12 ?_
    refine lv_iload_n hx hb dd_V_kind_15 rfl (lv_at hl 1 rfl) ?_
    obtain ⟨o_16, ho_16, hF⟩ := jv_bi hF
    refine jv_ci (va_runV (C := cn_R) (As := [.int x1]) (rest := []) ⟨hx, hb, hml, hown, ht⟩ (c_R_kindOf l dC dI cI cL cC cZ h3 h4 h5 h6 h7 s.heap.size ct lo oc kd dp su nm x1 _ ho_16) (cwV 1 ht (gi_V tw_1_147 tw_1_148 tw_1_149 tw_1_3 tw_1_150) rfl rfl rfl (by decide +kernel) ⟨Nat.le_of_ble_eq_true rfl, Nat.le_of_ble_eq_true rfl⟩) (jv_pv hK hP hD [3, 4, 5, 6, 7] rfl (by decide) rfl (va_recv hK hP (ci := 0) (q0 := 3) rfl rfl)) rfl rfl hl.1 rfl (lv_room (Nat.le_of_ble_eq_true rfl)) dd_V_kind_16 ⟨Nat.le_of_ble_eq_true rfl, Nat.le_of_ble_eq_true rfl⟩) ?_
    refine lv_goto (tgt := 23) hx hb dd_V_kind_19 (by decide) ?_
    subst hQ
    exact W.iret (v := o_16) hx hb hr (fun t ht hW => ⟨o_16, rfl, (Option.some.inj hF), ht⟩) (fun _ h => by cases h) dd_V_kind_23
set_option maxHeartbeats 40000000 in
set_option maxRecDepth 100000 in
theorem c_V_depth (l : Launch) (dC : Nat → ClassId) (dI : Nat → Nat → Nat) (cI cL cC cZ : ClassId) (h0 h1 h2 h3 h4 h5 h6 h7 h8 h9 h10 h11 h12 : Nat) (sz : Nat) (bn : Int64) (zp : Int32) (ch : Nat → Int32) (ct : Int32) (lo : Int32) (oc : Int32) (kd : Nat → Int32) (dp : Nat → Int32) (su : Nat → Int32) (nm : Nat → Int64) (ct2 : Int32) (lo2 : Int32) (oc2 : Int32) (kd2 : Nat → Int32) (dp2 : Nat → Int32) (su2 : Nat → Int32) (nm2 : Nat → Int64) (x1 : Int32) (out : Int32) (hF : fn_V_depth ct dp x1 = some out) : Met l yy_V_depth ws_V_depth { frames := 2, cells := 0, slots := 0, locals := 42 } (mP_ (dC, dI) (tk_ cI cL cC cZ) [(h0, .inr (5, [.ref h1, .ref h3, .ref h8, .long bn])), (h1, .inr (1, [.ref h2, .int zp])), (h2, .inl (cC, 3000, .inl ch)), (h3, .inr (0, [.ref h4, .ref h5, .ref h6, .ref h7, .int ct, .int lo, .int oc])), (h4, .inl (cI, 24, .inl kd)), (h5, .inl (cI, 24, .inl dp)), (h6, .inl (cI, 24, .inl su)), (h7, .inl (cL, 24, .inr (.inl nm))), (h8, .inr (0, [.ref h9, .ref h10, .ref h11, .ref h12, .int ct2, .int lo2, .int oc2])), (h9, .inl (cI, 24, .inl kd2)), (h10, .inl (cI, 24, .inl dp2)), (h11, .inl (cI, 24, .inl su2)), (h12, .inl (cL, 24, .inr (.inl nm2)))] sz [.ref h0, .int x1]) (vp_Si (fun r => r = out)) 0 0 (fun _ => False) := by
  refine Met.ofW (cc := cc_V_depth) (maxL := 2) (ret := (some .int)) (by decide) rfl ?_
  intro p e s m args below meth c s₁ B hml hv
  obtain ⟨hargs, hsz, hP, hK, hD0⟩ := hv
  have hx := B.exec
  have hb := B.bytes
  have hr := B.returns
  have hts := atoms_spec (ws := ws_V_depth) B.pre
  have ht : ∀ w ∈ TB_, w.before args s = true := fun w h => hts w (List.mem_cons_of_mem _ h)
  have hown : s.vm.findClass cn_V = some m.cls := findClass_of_methodNamed B.named
  have hlocks := B.notSynchronized
  subst hsz
  have hD := hD0.self (sz := s.heap.size)
  generalize hAe : va_A [(h0, .inr (5, [.ref h1, .ref h3, .ref h8, .long bn])), (h1, .inr (1, [.ref h2, .int zp])), (h2, .inl (cC, 3000, .inl ch)), (h3, .inr (0, [.ref h4, .ref h5, .ref h6, .ref h7, .int ct, .int lo, .int oc])), (h4, .inl (cI, 24, .inl kd)), (h5, .inl (cI, 24, .inl dp)), (h6, .inl (cI, 24, .inl su)), (h7, .inl (cL, 24, .inr (.inl nm))), (h8, .inr (0, [.ref h9, .ref h10, .ref h11, .ref h12, .int ct2, .int lo2, .int oc2])), (h9, .inl (cI, 24, .inl kd2)), (h10, .inl (cI, 24, .inl dp2)), (h11, .inl (cI, 24, .inl su2)), (h12, .inl (cL, 24, .inr (.inl nm2)))] s.heap.size = A at hD
  have hA : ∀ q : Nat, s.heap.size ≤ q → A q := fun q h => by rw [← hAe]; exact Or.inr h
  have hS : va_S A s.heap s.heap [] := va_S.rf
  have hP : va_P (dC, dI) vwCl [(h0, .inr (5, [.ref h1, .ref h3, .ref h8, .long bn])), (h1, .inr (1, [.ref h2, .int zp])), (h2, .inl (cC, 3000, .inl ch)), (h3, .inr (0, [.ref h4, .ref h5, .ref h6, .ref h7, .int ct, .int lo, .int oc])), (h4, .inl (cI, 24, .inl kd)), (h5, .inl (cI, 24, .inl dp)), (h6, .inl (cI, 24, .inl su)), (h7, .inl (cL, 24, .inr (.inl nm))), (h8, .inr (0, [.ref h9, .ref h10, .ref h11, .ref h12, .int ct2, .int lo2, .int oc2])), (h9, .inl (cI, 24, .inl kd2)), (h10, .inl (cI, 24, .inl dp2)), (h11, .inl (cI, 24, .inl su2)), (h12, .inl (cL, 24, .inr (.inl nm2)))] s.heap := hP
  have hl := lv_entry [.ref h0, .int x1] (n := 2) (Nat.le_of_ble_eq_true rfl)
  have he : entryFrame m args 2 = _ := (congrArg (fun a => entryFrame m a 2) hargs).trans (lg_entry_eq m [.ref h0, .int x1] 2)
  rw [he]
  generalize (lg_sl [.ref h0, .int x1] ++ List.replicate (2 - (lg_sl [.ref h0, .int x1]).length) Slot.unset).toArray = ls at hl ⊢
  have hl : lv_has ls 2 [(0, .ref h0), (1, .int x1)] := hl
  generalize hQ : MQ below _ args s _ _ _ = Q
  unfold fn_V_depth at hF
  refine lv_aload_n hx hb dd_V_depth_0 rfl (lv_at hl 0 rfl) ?_
  refine va_get (D := (dC, dI)) (ci := 5) (v := .ref h3) (C := cn_V) (T := tt_V) (N := 4) hx hb ht in_V hown hK hP 0 rfl rfl 1 (by decide) (ht _ tw_1_66) (fun _ h9 => h9) rfl dd_V_depth_1 ?_
  refine lv_iload_n hx hb dd_V_depth_4 rfl (lv_at hl 1 rfl) ?_
  obtain ⟨o_5, ho_5, hF⟩ := jv_bi hF
  refine jv_ci (va_runV (C := cn_R) (As := [.int x1]) (rest := []) ⟨hx, hb, hml, hown, ht⟩ (c_R_has l dC dI cI cL cC cZ h3 h4 h5 h6 h7 s.heap.size ct lo oc kd dp su nm x1 _ ho_5) (cwV 1 ht (gi_V tw_1_146 tw_1_115 tw_1_116 tw_1_3 tw_1_117) rfl rfl rfl (by decide +kernel) ⟨Nat.le_of_ble_eq_true rfl, Nat.le_of_ble_eq_true rfl⟩) (jv_pv hK hP hD [3, 4, 5, 6, 7] rfl (by decide) rfl (va_recv hK hP (ci := 0) (q0 := 3) rfl rfl)) rfl rfl hl.1 rfl (lv_room (Nat.le_of_ble_eq_true rfl)) dd_V_depth_5 ⟨Nat.le_of_ble_eq_true rfl, Nat.le_of_ble_eq_true rfl⟩) ?_
  refine lv_if_eq (tgt := 22) hx hb dd_V_depth_8 (by decide) (fun c_2 => ?_) (fun c_2 => ?_)
  · have hF := jv_t c_2 hF
    refine lv_iconst (v := (-1)) hx hb dd_V_depth_22 (by decide) ?_
    subst hQ
    exact W.iret (v := (-1)) hx hb hr (fun t ht hW => ⟨(-1), rfl, (Option.some.inj hF), ht⟩) (fun _ h => by cases h) dd_V_depth_23
  · have hF := jv_f c_2 hF
    refine lv_aload_n hx hb dd_V_depth_11 rfl (lv_at hl 0 rfl) ?_
    refine va_get (D := (dC, dI)) (ci := 5) (v := .ref h3) (C := cn_V) (T := tt_V) (N := 4) hx hb ht in_V hown hK hP 0 rfl rfl 1 (by decide) (ht _ tw_1_66) (fun _ h9 => h9) rfl dd_V_depth_12 ?_
    refine lv_iload_n hx hb dd_V_depth_15 rfl (lv_at hl 1 rfl) ?_
    obtain ⟨o_16, ho_16, hF⟩ := jv_bi hF
    refine jv_ci (va_runV (C := cn_R) (As := [.int x1]) (rest := []) ⟨hx, hb, hml, hown, ht⟩ (c_R_depthOf l dC dI cI cL cC cZ h3 h4 h5 h6 h7 s.heap.size ct lo oc kd dp su nm x1 _ ho_16) (cwV 1 ht (gi_V tw_1_155 tw_1_156 tw_1_157 tw_1_3 tw_1_158) rfl rfl rfl (by decide +kernel) ⟨Nat.le_of_ble_eq_true rfl, Nat.le_of_ble_eq_true rfl⟩) (jv_pv hK hP hD [3, 4, 5, 6, 7] rfl (by decide) rfl (va_recv hK hP (ci := 0) (q0 := 3) rfl rfl)) rfl rfl hl.1 rfl (lv_room (Nat.le_of_ble_eq_true rfl)) dd_V_depth_16 ⟨Nat.le_of_ble_eq_true rfl, Nat.le_of_ble_eq_true rfl⟩) ?_
    refine lv_goto (tgt := 23) hx hb dd_V_depth_19 (by decide) ?_
    subst hQ
    exact W.iret (v := o_16) hx hb hr (fun t ht hW => ⟨o_16, rfl, (Option.some.inj hF), ht⟩) (fun _ h => by cases h) dd_V_depth_23
set_option maxHeartbeats 40000000 in
set_option maxRecDepth 100000 in
theorem c_V_length (l : Launch) (dC : Nat → ClassId) (dI : Nat → Nat → Nat) (cI cL cC cZ : ClassId) (h0 h1 h2 h3 h4 h5 h6 h7 h8 h9 h10 h11 h12 : Nat) (sz : Nat) (bn : Int64) (zp : Int32) (ch : Nat → Int32) (ct : Int32) (lo : Int32) (oc : Int32) (kd : Nat → Int32) (dp : Nat → Int32) (su : Nat → Int32) (nm : Nat → Int64) (ct2 : Int32) (lo2 : Int32) (oc2 : Int32) (kd2 : Nat → Int32) (dp2 : Nat → Int32) (su2 : Nat → Int32) (nm2 : Nat → Int64)  (out : Int32) (hF : fn_V_length zp = some out) : Met l yy_V_length ws_V_length { frames := 1, cells := 0, slots := 0, locals := 20 } (mP_ (dC, dI) (tk_ cI cL cC cZ) [(h0, .inr (5, [.ref h1, .ref h3, .ref h8, .long bn])), (h1, .inr (1, [.ref h2, .int zp])), (h2, .inl (cC, 3000, .inl ch)), (h3, .inr (0, [.ref h4, .ref h5, .ref h6, .ref h7, .int ct, .int lo, .int oc])), (h4, .inl (cI, 24, .inl kd)), (h5, .inl (cI, 24, .inl dp)), (h6, .inl (cI, 24, .inl su)), (h7, .inl (cL, 24, .inr (.inl nm))), (h8, .inr (0, [.ref h9, .ref h10, .ref h11, .ref h12, .int ct2, .int lo2, .int oc2])), (h9, .inl (cI, 24, .inl kd2)), (h10, .inl (cI, 24, .inl dp2)), (h11, .inl (cI, 24, .inl su2)), (h12, .inl (cL, 24, .inr (.inl nm2)))] sz [.ref h0]) (vp_Si (fun r => r = out)) 0 0 (fun _ => False) := by
  refine Met.ofW (cc := cc_V_length) (maxL := 1) (ret := (some .int)) (by decide) rfl ?_
  intro p e s m args below meth c s₁ B hml hv
  obtain ⟨hargs, hsz, hP, hK, hD0⟩ := hv
  have hx := B.exec
  have hb := B.bytes
  have hr := B.returns
  have hts := atoms_spec (ws := ws_V_length) B.pre
  have ht : ∀ w ∈ TB_, w.before args s = true := fun w h => hts w (List.mem_cons_of_mem _ h)
  have hown : s.vm.findClass cn_V = some m.cls := findClass_of_methodNamed B.named
  have hlocks := B.notSynchronized
  subst hsz
  have hD := hD0.self (sz := s.heap.size)
  generalize hAe : va_A [(h0, .inr (5, [.ref h1, .ref h3, .ref h8, .long bn])), (h1, .inr (1, [.ref h2, .int zp])), (h2, .inl (cC, 3000, .inl ch)), (h3, .inr (0, [.ref h4, .ref h5, .ref h6, .ref h7, .int ct, .int lo, .int oc])), (h4, .inl (cI, 24, .inl kd)), (h5, .inl (cI, 24, .inl dp)), (h6, .inl (cI, 24, .inl su)), (h7, .inl (cL, 24, .inr (.inl nm))), (h8, .inr (0, [.ref h9, .ref h10, .ref h11, .ref h12, .int ct2, .int lo2, .int oc2])), (h9, .inl (cI, 24, .inl kd2)), (h10, .inl (cI, 24, .inl dp2)), (h11, .inl (cI, 24, .inl su2)), (h12, .inl (cL, 24, .inr (.inl nm2)))] s.heap.size = A at hD
  have hA : ∀ q : Nat, s.heap.size ≤ q → A q := fun q h => by rw [← hAe]; exact Or.inr h
  have hS : va_S A s.heap s.heap [] := va_S.rf
  have hP : va_P (dC, dI) vwCl [(h0, .inr (5, [.ref h1, .ref h3, .ref h8, .long bn])), (h1, .inr (1, [.ref h2, .int zp])), (h2, .inl (cC, 3000, .inl ch)), (h3, .inr (0, [.ref h4, .ref h5, .ref h6, .ref h7, .int ct, .int lo, .int oc])), (h4, .inl (cI, 24, .inl kd)), (h5, .inl (cI, 24, .inl dp)), (h6, .inl (cI, 24, .inl su)), (h7, .inl (cL, 24, .inr (.inl nm))), (h8, .inr (0, [.ref h9, .ref h10, .ref h11, .ref h12, .int ct2, .int lo2, .int oc2])), (h9, .inl (cI, 24, .inl kd2)), (h10, .inl (cI, 24, .inl dp2)), (h11, .inl (cI, 24, .inl su2)), (h12, .inl (cL, 24, .inr (.inl nm2)))] s.heap := hP
  have hl := lv_entry [.ref h0] (n := 1) (Nat.le_of_ble_eq_true rfl)
  have he : entryFrame m args 1 = _ := (congrArg (fun a => entryFrame m a 1) hargs).trans (lg_entry_eq m [.ref h0] 1)
  rw [he]
  generalize (lg_sl [.ref h0] ++ List.replicate (1 - (lg_sl [.ref h0]).length) Slot.unset).toArray = ls at hl ⊢
  have hl : lv_has ls 1 [(0, .ref h0)] := hl
  generalize hQ : MQ below _ args s _ _ _ = Q
  unfold fn_V_length at hF
  refine lv_aload_n hx hb dd_V_length_0 rfl (lv_at hl 0 rfl) ?_
  refine va_get (D := (dC, dI)) (ci := 5) (v := .ref h1) (C := cn_V) (T := tt_V) (N := 4) hx hb ht in_V hown hK hP 0 rfl rfl 0 (by decide) (ht _ tw_1_65) (fun _ h9 => h9) rfl dd_V_length_1 ?_
  obtain ⟨o_4, ho_4, hF⟩ := jv_bi hF
  refine jv_ci (va_runV (C := cn_P) (As := []) (rest := []) ⟨hx, hb, hml, hown, ht⟩ (c_P_size l dC dI cI cL cC cZ h1 h2 s.heap.size zp ch _ ho_4) (cwV 0 ht (gi_V tw_2_98 tw_2_99 tw_2_100 tw_1_2 tw_2_101) rfl rfl rfl (by decide +kernel) ⟨Nat.le_of_ble_eq_true rfl, Nat.le_of_ble_eq_true rfl⟩) (jv_pv hK hP hD [1, 2] rfl (by decide) rfl (va_recv hK hP (ci := 1) (q0 := 1) rfl rfl)) rfl rfl hl.1 rfl (lv_room (Nat.le_of_ble_eq_true rfl)) dd_V_length_4 ⟨Nat.le_of_ble_eq_true rfl, Nat.le_of_ble_eq_true rfl⟩) ?_
  subst hQ
  exact W.iret (v := o_4) hx hb hr (fun t ht hW => ⟨o_4, rfl, (Option.some.inj hF), ht⟩) (fun _ h => by cases h) dd_V_length_7
set_option maxHeartbeats 40000000 in
set_option maxRecDepth 100000 in
theorem c_V_at (l : Launch) (dC : Nat → ClassId) (dI : Nat → Nat → Nat) (cI cL cC cZ : ClassId) (h0 h1 h2 h3 h4 h5 h6 h7 h8 h9 h10 h11 h12 : Nat) (sz : Nat) (bn : Int64) (zp : Int32) (ch : Nat → Int32) (ct : Int32) (lo : Int32) (oc : Int32) (kd : Nat → Int32) (dp : Nat → Int32) (su : Nat → Int32) (nm : Nat → Int64) (ct2 : Int32) (lo2 : Int32) (oc2 : Int32) (kd2 : Nat → Int32) (dp2 : Nat → Int32) (su2 : Nat → Int32) (nm2 : Nat → Int64) (x1 : Int32) (out : Int32) (hF : fn_V_at zp ch x1 = some out) : Met l yy_V_at ws_V_at { frames := 1, cells := 0, slots := 0, locals := 21 } (mP_ (dC, dI) (tk_ cI cL cC cZ) [(h0, .inr (5, [.ref h1, .ref h3, .ref h8, .long bn])), (h1, .inr (1, [.ref h2, .int zp])), (h2, .inl (cC, 3000, .inl ch)), (h3, .inr (0, [.ref h4, .ref h5, .ref h6, .ref h7, .int ct, .int lo, .int oc])), (h4, .inl (cI, 24, .inl kd)), (h5, .inl (cI, 24, .inl dp)), (h6, .inl (cI, 24, .inl su)), (h7, .inl (cL, 24, .inr (.inl nm))), (h8, .inr (0, [.ref h9, .ref h10, .ref h11, .ref h12, .int ct2, .int lo2, .int oc2])), (h9, .inl (cI, 24, .inl kd2)), (h10, .inl (cI, 24, .inl dp2)), (h11, .inl (cI, 24, .inl su2)), (h12, .inl (cL, 24, .inr (.inl nm2)))] sz [.ref h0, .int x1]) (vp_Si (fun r => r = out)) 0 0 (fun _ => False) := by
  refine Met.ofW (cc := cc_V_at) (maxL := 2) (ret := (some .int)) (by decide) rfl ?_
  intro p e s m args below meth c s₁ B hml hv
  obtain ⟨hargs, hsz, hP, hK, hD0⟩ := hv
  have hx := B.exec
  have hb := B.bytes
  have hr := B.returns
  have hts := atoms_spec (ws := ws_V_at) B.pre
  have ht : ∀ w ∈ TB_, w.before args s = true := fun w h => hts w (List.mem_cons_of_mem _ h)
  have hown : s.vm.findClass cn_V = some m.cls := findClass_of_methodNamed B.named
  have hlocks := B.notSynchronized
  subst hsz
  have hD := hD0.self (sz := s.heap.size)
  generalize hAe : va_A [(h0, .inr (5, [.ref h1, .ref h3, .ref h8, .long bn])), (h1, .inr (1, [.ref h2, .int zp])), (h2, .inl (cC, 3000, .inl ch)), (h3, .inr (0, [.ref h4, .ref h5, .ref h6, .ref h7, .int ct, .int lo, .int oc])), (h4, .inl (cI, 24, .inl kd)), (h5, .inl (cI, 24, .inl dp)), (h6, .inl (cI, 24, .inl su)), (h7, .inl (cL, 24, .inr (.inl nm))), (h8, .inr (0, [.ref h9, .ref h10, .ref h11, .ref h12, .int ct2, .int lo2, .int oc2])), (h9, .inl (cI, 24, .inl kd2)), (h10, .inl (cI, 24, .inl dp2)), (h11, .inl (cI, 24, .inl su2)), (h12, .inl (cL, 24, .inr (.inl nm2)))] s.heap.size = A at hD
  have hA : ∀ q : Nat, s.heap.size ≤ q → A q := fun q h => by rw [← hAe]; exact Or.inr h
  have hS : va_S A s.heap s.heap [] := va_S.rf
  have hP : va_P (dC, dI) vwCl [(h0, .inr (5, [.ref h1, .ref h3, .ref h8, .long bn])), (h1, .inr (1, [.ref h2, .int zp])), (h2, .inl (cC, 3000, .inl ch)), (h3, .inr (0, [.ref h4, .ref h5, .ref h6, .ref h7, .int ct, .int lo, .int oc])), (h4, .inl (cI, 24, .inl kd)), (h5, .inl (cI, 24, .inl dp)), (h6, .inl (cI, 24, .inl su)), (h7, .inl (cL, 24, .inr (.inl nm))), (h8, .inr (0, [.ref h9, .ref h10, .ref h11, .ref h12, .int ct2, .int lo2, .int oc2])), (h9, .inl (cI, 24, .inl kd2)), (h10, .inl (cI, 24, .inl dp2)), (h11, .inl (cI, 24, .inl su2)), (h12, .inl (cL, 24, .inr (.inl nm2)))] s.heap := hP
  have hl := lv_entry [.ref h0, .int x1] (n := 2) (Nat.le_of_ble_eq_true rfl)
  have he : entryFrame m args 2 = _ := (congrArg (fun a => entryFrame m a 2) hargs).trans (lg_entry_eq m [.ref h0, .int x1] 2)
  rw [he]
  generalize (lg_sl [.ref h0, .int x1] ++ List.replicate (2 - (lg_sl [.ref h0, .int x1]).length) Slot.unset).toArray = ls at hl ⊢
  have hl : lv_has ls 2 [(0, .ref h0), (1, .int x1)] := hl
  generalize hQ : MQ below _ args s _ _ _ = Q
  unfold fn_V_at at hF
  refine lv_aload_n hx hb dd_V_at_0 rfl (lv_at hl 0 rfl) ?_
  refine va_get (D := (dC, dI)) (ci := 5) (v := .ref h1) (C := cn_V) (T := tt_V) (N := 4) hx hb ht in_V hown hK hP 0 rfl rfl 0 (by decide) (ht _ tw_1_65) (fun _ h9 => h9) rfl dd_V_at_1 ?_
  refine lv_iload_n hx hb dd_V_at_4 rfl (lv_at hl 1 rfl) ?_
  obtain ⟨o_5, ho_5, hF⟩ := jv_bi hF
  refine jv_ci (va_runV (C := cn_P) (As := [.int x1]) (rest := []) ⟨hx, hb, hml, hown, ht⟩ (c_P_codeAt l dC dI cI cL cC cZ h1 h2 s.heap.size zp ch x1 _ ho_5) (cwV 1 ht (gi_V tw_2_234 tw_2_235 tw_2_236 tw_1_2 tw_2_237) rfl rfl rfl (by decide +kernel) ⟨Nat.le_of_ble_eq_true rfl, Nat.le_of_ble_eq_true rfl⟩) (jv_pv hK hP hD [1, 2] rfl (by decide) rfl (va_recv hK hP (ci := 1) (q0 := 1) rfl rfl)) rfl rfl hl.1 rfl (lv_room (Nat.le_of_ble_eq_true rfl)) dd_V_at_5 ⟨Nat.le_of_ble_eq_true rfl, Nat.le_of_ble_eq_true rfl⟩) ?_
  subst hQ
  exact W.iret (v := o_5) hx hb hr (fun t ht hW => ⟨o_5, rfl, (Option.some.inj hF), ht⟩) (fun _ h => by cases h) dd_V_at_8
set_option maxHeartbeats 40000000 in
set_option maxRecDepth 100000 in
theorem c_V_cut (l : Launch) (dC : Nat → ClassId) (dI : Nat → Nat → Nat) (cI cL cC cZ : ClassId) (h0 h1 h2 h3 h4 h5 h6 h7 h8 h9 h10 h11 h12 : Nat) (sz : Nat) (bn : Int64) (zp : Int32) (ch : Nat → Int32) (ct : Int32) (lo : Int32) (oc : Int32) (kd : Nat → Int32) (dp : Nat → Int32) (su : Nat → Int32) (nm : Nat → Int64) (ct2 : Int32) (lo2 : Int32) (oc2 : Int32) (kd2 : Nat → Int32) (dp2 : Nat → Int32) (su2 : Nat → Int32) (nm2 : Nat → Int64) (x1 : Int32) (out : Int32 × Int32) (hF : fn_V_cut zp x1 = some out) : Met l yy_V_cut ws_V_cut { frames := 1, cells := 0, slots := 0, locals := 21 } (mP_ (dC, dI) (tk_ cI cL cC cZ) [(h0, .inr (5, [.ref h1, .ref h3, .ref h8, .long bn])), (h1, .inr (1, [.ref h2, .int zp])), (h2, .inl (cC, 3000, .inl ch)), (h3, .inr (0, [.ref h4, .ref h5, .ref h6, .ref h7, .int ct, .int lo, .int oc])), (h4, .inl (cI, 24, .inl kd)), (h5, .inl (cI, 24, .inl dp)), (h6, .inl (cI, 24, .inl su)), (h7, .inl (cL, 24, .inr (.inl nm))), (h8, .inr (0, [.ref h9, .ref h10, .ref h11, .ref h12, .int ct2, .int lo2, .int oc2])), (h9, .inl (cI, 24, .inl kd2)), (h10, .inl (cI, 24, .inl dp2)), (h11, .inl (cI, 24, .inl su2)), (h12, .inl (cL, 24, .inr (.inl nm2)))] sz [.ref h0, .int x1]) (va_Qi (fun r (_ : Unit) => r = out.1) (mB_ (dC, dI) (tk_ cI cL cC cZ) [(h0, .inr (5, [.ref h1, .ref h3, .ref h8, .long bn])), (h1, .inr (1, [.ref h2, .int out.2])), (h2, .inl (cC, 3000, .inl ch)), (h3, .inr (0, [.ref h4, .ref h5, .ref h6, .ref h7, .int ct, .int lo, .int oc])), (h4, .inl (cI, 24, .inl kd)), (h5, .inl (cI, 24, .inl dp)), (h6, .inl (cI, 24, .inl su)), (h7, .inl (cL, 24, .inr (.inl nm))), (h8, .inr (0, [.ref h9, .ref h10, .ref h11, .ref h12, .int ct2, .int lo2, .int oc2])), (h9, .inl (cI, 24, .inl kd2)), (h10, .inl (cI, 24, .inl dp2)), (h11, .inl (cI, 24, .inl su2)), (h12, .inl (cL, 24, .inr (.inl nm2)))] (va_A [(h0, .inr (5, [.ref h1, .ref h3, .ref h8, .long bn])), (h1, .inr (1, [.ref h2, .int zp])), (h2, .inl (cC, 3000, .inl ch)), (h3, .inr (0, [.ref h4, .ref h5, .ref h6, .ref h7, .int ct, .int lo, .int oc])), (h4, .inl (cI, 24, .inl kd)), (h5, .inl (cI, 24, .inl dp)), (h6, .inl (cI, 24, .inl su)), (h7, .inl (cL, 24, .inr (.inl nm))), (h8, .inr (0, [.ref h9, .ref h10, .ref h11, .ref h12, .int ct2, .int lo2, .int oc2])), (h9, .inl (cI, 24, .inl kd2)), (h10, .inl (cI, 24, .inl dp2)), (h11, .inl (cI, 24, .inl su2)), (h12, .inl (cL, 24, .inr (.inl nm2)))] sz)) (va_A [(h0, .inr (5, [.ref h1, .ref h3, .ref h8, .long bn])), (h1, .inr (1, [.ref h2, .int zp])), (h2, .inl (cC, 3000, .inl ch)), (h3, .inr (0, [.ref h4, .ref h5, .ref h6, .ref h7, .int ct, .int lo, .int oc])), (h4, .inl (cI, 24, .inl kd)), (h5, .inl (cI, 24, .inl dp)), (h6, .inl (cI, 24, .inl su)), (h7, .inl (cL, 24, .inr (.inl nm))), (h8, .inr (0, [.ref h9, .ref h10, .ref h11, .ref h12, .int ct2, .int lo2, .int oc2])), (h9, .inl (cI, 24, .inl kd2)), (h10, .inl (cI, 24, .inl dp2)), (h11, .inl (cI, 24, .inl su2)), (h12, .inl (cL, 24, .inr (.inl nm2)))] sz)) 0 0 (va_A [(h0, .inr (5, [.ref h1, .ref h3, .ref h8, .long bn])), (h1, .inr (1, [.ref h2, .int zp])), (h2, .inl (cC, 3000, .inl ch)), (h3, .inr (0, [.ref h4, .ref h5, .ref h6, .ref h7, .int ct, .int lo, .int oc])), (h4, .inl (cI, 24, .inl kd)), (h5, .inl (cI, 24, .inl dp)), (h6, .inl (cI, 24, .inl su)), (h7, .inl (cL, 24, .inr (.inl nm))), (h8, .inr (0, [.ref h9, .ref h10, .ref h11, .ref h12, .int ct2, .int lo2, .int oc2])), (h9, .inl (cI, 24, .inl kd2)), (h10, .inl (cI, 24, .inl dp2)), (h11, .inl (cI, 24, .inl su2)), (h12, .inl (cL, 24, .inr (.inl nm2)))] sz) := by
  refine Met.ofW (cc := cc_V_cut) (maxL := 2) (ret := (some .boolean)) (by decide) rfl ?_
  intro p e s m args below meth c s₁ B hml hv
  obtain ⟨hargs, hsz, hP, hK, hD0⟩ := hv
  have hx := B.exec
  have hb := B.bytes
  have hr := B.returns
  have hts := atoms_spec (ws := ws_V_cut) B.pre
  have ht : ∀ w ∈ TB_, w.before args s = true := fun w h => hts w (List.mem_cons_of_mem _ h)
  have hown : s.vm.findClass cn_V = some m.cls := findClass_of_methodNamed B.named
  have hlocks := B.notSynchronized
  subst hsz
  have hD := hD0.self (sz := s.heap.size)
  generalize hAe : va_A [(h0, .inr (5, [.ref h1, .ref h3, .ref h8, .long bn])), (h1, .inr (1, [.ref h2, .int zp])), (h2, .inl (cC, 3000, .inl ch)), (h3, .inr (0, [.ref h4, .ref h5, .ref h6, .ref h7, .int ct, .int lo, .int oc])), (h4, .inl (cI, 24, .inl kd)), (h5, .inl (cI, 24, .inl dp)), (h6, .inl (cI, 24, .inl su)), (h7, .inl (cL, 24, .inr (.inl nm))), (h8, .inr (0, [.ref h9, .ref h10, .ref h11, .ref h12, .int ct2, .int lo2, .int oc2])), (h9, .inl (cI, 24, .inl kd2)), (h10, .inl (cI, 24, .inl dp2)), (h11, .inl (cI, 24, .inl su2)), (h12, .inl (cL, 24, .inr (.inl nm2)))] s.heap.size = A at hD ⊢
  have hA : ∀ q : Nat, s.heap.size ≤ q → A q := fun q h => by rw [← hAe]; exact Or.inr h
  have hS : va_S A s.heap s.heap [] := va_S.rf
  have hP : va_P (dC, dI) vwCl [(h0, .inr (5, [.ref h1, .ref h3, .ref h8, .long bn])), (h1, .inr (1, [.ref h2, .int zp])), (h2, .inl (cC, 3000, .inl ch)), (h3, .inr (0, [.ref h4, .ref h5, .ref h6, .ref h7, .int ct, .int lo, .int oc])), (h4, .inl (cI, 24, .inl kd)), (h5, .inl (cI, 24, .inl dp)), (h6, .inl (cI, 24, .inl su)), (h7, .inl (cL, 24, .inr (.inl nm))), (h8, .inr (0, [.ref h9, .ref h10, .ref h11, .ref h12, .int ct2, .int lo2, .int oc2])), (h9, .inl (cI, 24, .inl kd2)), (h10, .inl (cI, 24, .inl dp2)), (h11, .inl (cI, 24, .inl su2)), (h12, .inl (cL, 24, .inr (.inl nm2)))] s.heap := hP
  have hl := lv_entry [.ref h0, .int x1] (n := 2) (Nat.le_of_ble_eq_true rfl)
  have he : entryFrame m args 2 = _ := (congrArg (fun a => entryFrame m a 2) hargs).trans (lg_entry_eq m [.ref h0, .int x1] 2)
  rw [he]
  generalize (lg_sl [.ref h0, .int x1] ++ List.replicate (2 - (lg_sl [.ref h0, .int x1]).length) Slot.unset).toArray = ls at hl ⊢
  have hl : lv_has ls 2 [(0, .ref h0), (1, .int x1)] := hl
  generalize hQ : MQ below _ args s _ _ _ = Q
  unfold fn_V_cut at hF
  refine lv_aload_n hx hb dd_V_cut_0 rfl (lv_at hl 0 rfl) ?_
  refine va_get (D := (dC, dI)) (ci := 5) (v := .ref h1) (C := cn_V) (T := tt_V) (N := 4) hx hb ht in_V hown hK hP 0 rfl rfl 0 (by decide) (ht _ tw_1_65) (fun _ h9 => h9) rfl dd_V_cut_1 ?_
  refine lv_iload_n hx hb dd_V_cut_4 rfl (lv_at hl 1 rfl) ?_
  obtain ⟨o_5, ho_5, hF⟩ := jv_bi hF
  refine jv_mi (wr := [(h0, .inr (5, [.ref h1, .ref h3, .ref h8, .long bn])), (h3, .inr (0, [.ref h4, .ref h5, .ref h6, .ref h7, .int ct, .int lo, .int oc])), (h4, .inl (cI, 24, .inl kd)), (h5, .inl (cI, 24, .inl dp)), (h6, .inl (cI, 24, .inl su)), (h7, .inl (cL, 24, .inr (.inl nm))), (h8, .inr (0, [.ref h9, .ref h10, .ref h11, .ref h12, .int ct2, .int lo2, .int oc2])), (h9, .inl (cI, 24, .inl kd2)), (h10, .inl (cI, 24, .inl dp2)), (h11, .inl (cI, 24, .inl su2)), (h12, .inl (cL, 24, .inr (.inl nm2)))]) (w1 := [(h1, .inr (1, [.ref h2, .int o_5.2])), (h2, .inl (cC, 3000, .inl ch))]) (va_runV (C := cn_P) (As := [.int x1]) (rest := []) ⟨hx, hb, hml, hown, ht⟩ (c_P_shorten l dC dI cI cL cC cZ h1 h2 s.heap.size zp ch x1 _ ho_5) (cwV 1 ht (gi_V tw_3_18 tw_1_190 tw_1_191 tw_1_2 tw_1_192) rfl rfl rfl (by decide +kernel) ⟨Nat.le_of_ble_eq_true rfl, Nat.le_of_ble_eq_true rfl⟩) (jv_pv hK hP hD [1, 2] rfl (by decide) rfl (va_recv hK hP (ci := 1) (q0 := 1) rfl rfl)) rfl rfl hl.1 rfl (lv_room (Nat.le_of_ble_eq_true rfl)) dd_V_cut_5 ⟨Nat.le_of_ble_eq_true rfl, Nat.le_of_ble_eq_true rfl⟩) hP hD hS hA [1, 2] [0, 3, 4, 5, 6, 7, 8, 9, 10, 11, 12] rfl rfl (by decide) (by decide) (fun H_3 locs_4 hP hD hS => ?_)
  have hP : va_P (dC, dI) vwCl [(h0, .inr (5, [.ref h1, .ref h3, .ref h8, .long bn])), (h1, .inr (1, [.ref h2, .int o_5.2])), (h2, .inl (cC, 3000, .inl ch)), (h3, .inr (0, [.ref h4, .ref h5, .ref h6, .ref h7, .int ct, .int lo, .int oc])), (h4, .inl (cI, 24, .inl kd)), (h5, .inl (cI, 24, .inl dp)), (h6, .inl (cI, 24, .inl su)), (h7, .inl (cL, 24, .inr (.inl nm))), (h8, .inr (0, [.ref h9, .ref h10, .ref h11, .ref h12, .int ct2, .int lo2, .int oc2])), (h9, .inl (cI, 24, .inl kd2)), (h10, .inl (cI, 24, .inl dp2)), (h11, .inl (cI, 24, .inl su2)), (h12, .inl (cL, 24, .inr (.inl nm2)))] H_3 := hP.sub [0, 11, 12, 1, 2, 3, 4, 5, 6, 7, 8, 9, 10] rfl
  have hD : va_D A [(h0, .inr (5, [.ref h1, .ref h3, .ref h8, .long bn])), (h1, .inr (1, [.ref h2, .int o_5.2])), (h2, .inl (cC, 3000, .inl ch)), (h3, .inr (0, [.ref h4, .ref h5, .ref h6, .ref h7, .int ct, .int lo, .int oc])), (h4, .inl (cI, 24, .inl kd)), (h5, .inl (cI, 24, .inl dp)), (h6, .inl (cI, 24, .inl su)), (h7, .inl (cL, 24, .inr (.inl nm))), (h8, .inr (0, [.ref h9, .ref h10, .ref h11, .ref h12, .int ct2, .int lo2, .int oc2])), (h9, .inl (cI, 24, .inl kd2)), (h10, .inl (cI, 24, .inl dp2)), (h11, .inl (cI, 24, .inl su2)), (h12, .inl (cL, 24, .inr (.inl nm2)))] := hD.sub [0, 11, 12, 1, 2, 3, 4, 5, 6, 7, 8, 9, 10] (by decide) rfl
  obtain ⟨z_5, hF⟩ := jv_gi hF
  subst hQ
  obtain rfl := Option.some.inj hF
  exact W.zret (v := o_5.1) hx hb hr (jv_zn z_5).1 (fun t ht hW => ⟨⟨o_5.1, (), rfl, rfl, by rw [ht]; exact hP, va_K.moved hW.alike hK, hD⟩, hS.F ht⟩) hS.2.2 dd_V_cut_8
set_option maxHeartbeats 40000000 in
set_option maxRecDepth 100000 in
theorem c_V_attempts (l : Launch) (dC : Nat → ClassId) (dI : Nat → Nat → Nat) (cI cL cC cZ : ClassId) (h0 h1 h2 h3 h4 h5 h6 h7 h8 h9 h10 h11 h12 : Nat) (sz : Nat) (bn : Int64) (zp : Int32) (ch : Nat → Int32) (ct : Int32) (lo : Int32) (oc : Int32) (kd : Nat → Int32) (dp : Nat → Int32) (su : Nat → Int32) (nm : Nat → Int64) (ct2 : Int32) (lo2 : Int32) (oc2 : Int32) (kd2 : Nat → Int32) (dp2 : Nat → Int32) (su2 : Nat → Int32) (nm2 : Nat → Int64) (x1 : Int32) (out : Int32) (hF : fn_V_attempts ct kd dp su nm x1 = some out) : Met l yy_V_attempts ws_V_attempts { frames := 3, cells := 0, slots := 0, locals := 67 } (mP_ (dC, dI) (tk_ cI cL cC cZ) [(h0, .inr (5, [.ref h1, .ref h3, .ref h8, .long bn])), (h1, .inr (1, [.ref h2, .int zp])), (h2, .inl (cC, 3000, .inl ch)), (h3, .inr (0, [.ref h4, .ref h5, .ref h6, .ref h7, .int ct, .int lo, .int oc])), (h4, .inl (cI, 24, .inl kd)), (h5, .inl (cI, 24, .inl dp)), (h6, .inl (cI, 24, .inl su)), (h7, .inl (cL, 24, .inr (.inl nm))), (h8, .inr (0, [.ref h9, .ref h10, .ref h11, .ref h12, .int ct2, .int lo2, .int oc2])), (h9, .inl (cI, 24, .inl kd2)), (h10, .inl (cI, 24, .inl dp2)), (h11, .inl (cI, 24, .inl su2)), (h12, .inl (cL, 24, .inr (.inl nm2)))] sz [.ref h0, .int x1]) (vp_Si (fun r => r = out)) 0 0 (fun _ => False) := by
  refine Met.ofW (cc := cc_V_attempts) (maxL := 4) (ret := (some .int)) (by decide) rfl ?_
  intro p e s m args below meth c s₁ B hml hv
  obtain ⟨hargs, hsz, hP, hK, hD0⟩ := hv
  have hx := B.exec
  have hb := B.bytes
  have hr := B.returns
  have hts := atoms_spec (ws := ws_V_attempts) B.pre
  have ht : ∀ w ∈ TB_, w.before args s = true := fun w h => hts w (List.mem_cons_of_mem _ h)
  have hown : s.vm.findClass cn_V = some m.cls := findClass_of_methodNamed B.named
  have hlocks := B.notSynchronized
  subst hsz
  have hD := hD0.self (sz := s.heap.size)
  generalize hAe : va_A [(h0, .inr (5, [.ref h1, .ref h3, .ref h8, .long bn])), (h1, .inr (1, [.ref h2, .int zp])), (h2, .inl (cC, 3000, .inl ch)), (h3, .inr (0, [.ref h4, .ref h5, .ref h6, .ref h7, .int ct, .int lo, .int oc])), (h4, .inl (cI, 24, .inl kd)), (h5, .inl (cI, 24, .inl dp)), (h6, .inl (cI, 24, .inl su)), (h7, .inl (cL, 24, .inr (.inl nm))), (h8, .inr (0, [.ref h9, .ref h10, .ref h11, .ref h12, .int ct2, .int lo2, .int oc2])), (h9, .inl (cI, 24, .inl kd2)), (h10, .inl (cI, 24, .inl dp2)), (h11, .inl (cI, 24, .inl su2)), (h12, .inl (cL, 24, .inr (.inl nm2)))] s.heap.size = A at hD
  have hA : ∀ q : Nat, s.heap.size ≤ q → A q := fun q h => by rw [← hAe]; exact Or.inr h
  have hS : va_S A s.heap s.heap [] := va_S.rf
  have hP : va_P (dC, dI) vwCl [(h0, .inr (5, [.ref h1, .ref h3, .ref h8, .long bn])), (h1, .inr (1, [.ref h2, .int zp])), (h2, .inl (cC, 3000, .inl ch)), (h3, .inr (0, [.ref h4, .ref h5, .ref h6, .ref h7, .int ct, .int lo, .int oc])), (h4, .inl (cI, 24, .inl kd)), (h5, .inl (cI, 24, .inl dp)), (h6, .inl (cI, 24, .inl su)), (h7, .inl (cL, 24, .inr (.inl nm))), (h8, .inr (0, [.ref h9, .ref h10, .ref h11, .ref h12, .int ct2, .int lo2, .int oc2])), (h9, .inl (cI, 24, .inl kd2)), (h10, .inl (cI, 24, .inl dp2)), (h11, .inl (cI, 24, .inl su2)), (h12, .inl (cL, 24, .inr (.inl nm2)))] s.heap := hP
  have hl := lv_entry [.ref h0, .int x1] (n := 4) (Nat.le_of_ble_eq_true rfl)
  have he : entryFrame m args 4 = _ := (congrArg (fun a => entryFrame m a 4) hargs).trans (lg_entry_eq m [.ref h0, .int x1] 4)
  rw [he]
  generalize (lg_sl [.ref h0, .int x1] ++ List.replicate (4 - (lg_sl [.ref h0, .int x1]).length) Slot.unset).toArray = ls at hl ⊢
  have hl : lv_has ls 4 [(0, .ref h0), (1, .int x1)] := hl
  generalize hQ : MQ below _ args s _ _ _ = Q
  have lp17 : ∀ (n17 : Nat), ∀ (x1 : Int32) (x2 : Int32) (x3 : Int32), fl_V_attempts_17 ct kd dp su nm  n17 (x1, x2, x3) = some out → ∀ ls : Array Slot, lv_has ls 4 [(0, .ref h0), (1, .int x1), (2, .int x2), (3, .int x3)] → W p l e (headSpec ws_V_attempts { frames := 3, cells := 0, slots := 0, locals := 67 }).room s m args below meth c s.heap [] 0 0 Q (F0 m 17 ls []) := by
    intro n17
    induction n17 with
    | zero =>
      intro x1 x2 x3 hF
      exact (jv_no hF).elim
    | succ n17 ih17 =>
      intro x1 x2 x3 hF ls hl
      have hF : fb_V_attempts_17 ct kd dp su nm  (fl_V_attempts_17 ct kd dp su nm  n17) x1 x2 x3 = some out := hF
      unfold fb_V_attempts_17 at hF
      refine lv_iload_n hx hb dd_V_attempts_17 rfl (lv_at hl 3 rfl) ?_
      refine lv_aload_n hx hb dd_V_attempts_18 rfl (lv_at hl 0 rfl) ?_
      refine va_get (D := (dC, dI)) (ci := 5) (v := .ref h3) (C := cn_V) (T := tt_V) (N := 4) hx hb ht in_V hown hK hP 0 rfl rfl 1 (by decide) (ht _ tw_1_66) (fun _ h9 => h9) rfl dd_V_attempts_19 ?_
      obtain ⟨o_22, ho_22, hF⟩ := jv_bi hF
      refine jv_ci (va_runV (C := cn_R) (As := []) (rest := [.int x3]) ⟨hx, hb, hml, hown, ht⟩ (c_R_size l dC dI cI cL cC cZ h3 h4 h5 h6 h7 s.heap.size ct lo oc kd dp su nm _ ho_22) (cwV 0 ht (gi_V tw_1_138 tw_1_139 tw_1_140 tw_1_3 tw_1_141) rfl rfl rfl (by decide +kernel) ⟨Nat.le_of_ble_eq_true rfl, Nat.le_of_ble_eq_true rfl⟩) (jv_pv hK hP hD [3, 4, 5, 6, 7] rfl (by decide) rfl (va_recv hK hP (ci := 0) (q0 := 3) rfl rfl)) rfl rfl hl.1 rfl (lv_room (Nat.le_of_ble_eq_true rfl)) dd_V_attempts_22 ⟨Nat.le_of_ble_eq_true rfl, Nat.le_of_ble_eq_true rfl⟩) ?_
      refine lv_icmp_ge (tgt := 49) hx hb dd_V_attempts_25 (by decide) (fun c_4 => ?_) (fun c_4 => ?_)
      · have hF := jv_t c_4 hF
        refine lv_iload_n hx hb dd_V_attempts_49 rfl (lv_at hl 2 rfl) ?_
        subst hQ
        exact W.iret (v := x2) hx hb hr (fun t ht hW => ⟨x2, rfl, (Option.some.inj hF), ht⟩) (fun _ h => by cases h) dd_V_attempts_50
      · have hF := jv_f c_4 hF
        refine lv_aload_n hx hb dd_V_attempts_28 rfl (lv_at hl 0 rfl) ?_
        refine va_get (D := (dC, dI)) (ci := 5) (v := .ref h3) (C := cn_V) (T := tt_V) (N := 4) hx hb ht in_V hown hK hP 0 rfl rfl 1 (by decide) (ht _ tw_1_66) (fun _ h9 => h9) rfl dd_V_attempts_29 ?_
        refine lv_iload_n hx hb dd_V_attempts_32 rfl (lv_at hl 1 rfl) ?_
        refine lv_iload_n hx hb dd_V_attempts_33 rfl (lv_at hl 3 rfl) ?_
        obtain ⟨o_34, ho_34, hF⟩ := jv_bi hF
        refine jv_ci (va_runV (C := cn_R) (As := [.int x1, .int x3]) (rest := []) ⟨hx, hb, hml, hown, ht⟩ (c_R_areAttempts l dC dI cI cL cC cZ h3 h4 h5 h6 h7 s.heap.size ct lo oc kd dp su nm x1 x3 _ ho_34) (cwV 2 ht (gi_V tw_3_24 tw_3_25 tw_3_26 tw_1_3 tw_3_27) rfl rfl rfl (by decide +kernel) ⟨Nat.le_of_ble_eq_true rfl, Nat.le_of_ble_eq_true rfl⟩) (jv_pv hK hP hD [3, 4, 5, 6, 7] rfl (by decide) rfl (va_recv hK hP (ci := 0) (q0 := 3) rfl rfl)) rfl rfl hl.1 rfl (lv_room (Nat.le_of_ble_eq_true rfl)) dd_V_attempts_34 ⟨Nat.le_of_ble_eq_true rfl, Nat.le_of_ble_eq_true rfl⟩) ?_
        refine lv_if_eq (tgt := 43) hx hb dd_V_attempts_37 (by decide) (fun c_5 => ?_) (fun c_5 => ?_)
        · have hF := jv_t c_5 hF
          refine lv_iinc (v := x3 + 1) (lv' := [(3, .int (x3 + 1)), (0, .ref h0), (1, .int x1), (2, .int x2)]) hx hb dd_V_attempts_43 hl (k := 3) rfl rfl (by decide) rfl (fun ls hl => ?_)
          refine lv_goto (tgt := 17) hx hb dd_V_attempts_46 (by decide) ?_
          exact ih17 x1 x2 (x3 + 1) hF ls (lv_sub hl [1, 2, 3, 0] rfl)
        · have hF := jv_f c_5 hF
          refine lv_iinc (v := x2 + 1) (lv' := [(2, .int (x2 + 1)), (0, .ref h0), (1, .int x1), (3, .int x3)]) hx hb dd_V_attempts_40 hl (k := 2) rfl rfl (by decide) rfl (fun ls hl => ?_)
          refine lv_iinc (v := x3 + 1) (lv' := [(3, .int (x3 + 1)), (2, .int (x2 + 1)), (0, .ref h0), (1, .int x1)]) hx hb dd_V_attempts_43 hl (k := 3) rfl rfl (by decide) rfl (fun ls hl => ?_)
          refine lv_goto (tgt := 17) hx hb dd_V_attempts_46 (by decide) ?_
          exact ih17 x1 (x2 + 1) (x3 + 1) hF ls (lv_sub hl [2, 3, 1, 0] rfl)
  unfold fn_V_attempts at hF
  refine lv_aload_n hx hb dd_V_attempts_0 rfl (lv_at hl 0 rfl) ?_
  refine va_get (D := (dC, dI)) (ci := 5) (v := .ref h3) (C := cn_V) (T := tt_V) (N := 4) hx hb ht in_V hown hK hP 0 rfl rfl 1 (by decide) (ht _ tw_1_66) (fun _ h9 => h9) rfl dd_V_attempts_1 ?_
  refine lv_iload_n hx hb dd_V_attempts_4 rfl (lv_at hl 1 rfl) ?_
  obtain ⟨o_5, ho_5, hF⟩ := jv_bi hF
  refine jv_ci (va_runV (C := cn_R) (As := [.int x1]) (rest := []) ⟨hx, hb, hml, hown, ht⟩ (c_R_isTest l dC dI cI cL cC cZ h3 h4 h5 h6 h7 s.heap.size ct lo oc kd dp su nm x1 _ ho_5) (cwV 1 ht (gi_V tw_3_23 tw_2_77 tw_2_78 tw_1_3 tw_2_79) rfl rfl rfl (by decide +kernel) ⟨Nat.le_of_ble_eq_true rfl, Nat.le_of_ble_eq_true rfl⟩) (jv_pv hK hP hD [3, 4, 5, 6, 7] rfl (by decide) rfl (va_recv hK hP (ci := 0) (q0 := 3) rfl rfl)) rfl rfl hl.1 rfl (lv_room (Nat.le_of_ble_eq_true rfl)) dd_V_attempts_5 ⟨Nat.le_of_ble_eq_true rfl, Nat.le_of_ble_eq_true rfl⟩) ?_
  refine lv_if_ne (tgt := 13) hx hb dd_V_attempts_8 (by decide) (fun c_6 => ?_) (fun c_6 => ?_)
  · have hF := jv_f c_6 hF
    refine lv_iconst (v := 0) hx hb dd_V_attempts_13 (by decide) ?_
    refine lv_istore_n (lv' := [(2, .int 0), (0, .ref h0), (1, .int x1)]) hx hb dd_V_attempts_14 rfl hl (by decide) rfl (fun ls hl => ?_)
    refine lv_iconst (v := 0) hx hb dd_V_attempts_15 (by decide) ?_
    refine lv_istore_n (lv' := [(3, .int 0), (2, .int 0), (0, .ref h0), (1, .int x1)]) hx hb dd_V_attempts_16 rfl hl (by decide) rfl (fun ls hl => ?_)
    exact lp17 4000 x1 0 0 hF ls (lv_sub hl [2, 3, 1, 0] rfl)
  · have hF := jv_t c_6 hF
    refine lv_iconst (v := (-1)) hx hb dd_V_attempts_11 (by decide) ?_
    subst hQ
    exact W.iret (v := (-1)) hx hb hr (fun t ht hW => ⟨(-1), rfl, (Option.some.inj hF), ht⟩) (fun _ h => by cases h) dd_V_attempts_12
set_option maxHeartbeats 40000000 in
set_option maxRecDepth 100000 in
theorem c_V_flaky (l : Launch) (dC : Nat → ClassId) (dI : Nat → Nat → Nat) (cI cL cC cZ : ClassId) (h0 h1 h2 h3 h4 h5 h6 h7 h8 h9 h10 h11 h12 : Nat) (sz : Nat) (bn : Int64) (zp : Int32) (ch : Nat → Int32) (ct : Int32) (lo : Int32) (oc : Int32) (kd : Nat → Int32) (dp : Nat → Int32) (su : Nat → Int32) (nm : Nat → Int64) (ct2 : Int32) (lo2 : Int32) (oc2 : Int32) (kd2 : Nat → Int32) (dp2 : Nat → Int32) (su2 : Nat → Int32) (nm2 : Nat → Int64) (x1 : Int32) (out : Int32) (hF : fn_V_flaky ct kd dp su nm x1 = some out) : Met l yy_V_flaky ws_V_flaky { frames := 3, cells := 0, slots := 0, locals := 67 } (mP_ (dC, dI) (tk_ cI cL cC cZ) [(h0, .inr (5, [.ref h1, .ref h3, .ref h8, .long bn])), (h1, .inr (1, [.ref h2, .int zp])), (h2, .inl (cC, 3000, .inl ch)), (h3, .inr (0, [.ref h4, .ref h5, .ref h6, .ref h7, .int ct, .int lo, .int oc])), (h4, .inl (cI, 24, .inl kd)), (h5, .inl (cI, 24, .inl dp)), (h6, .inl (cI, 24, .inl su)), (h7, .inl (cL, 24, .inr (.inl nm))), (h8, .inr (0, [.ref h9, .ref h10, .ref h11, .ref h12, .int ct2, .int lo2, .int oc2])), (h9, .inl (cI, 24, .inl kd2)), (h10, .inl (cI, 24, .inl dp2)), (h11, .inl (cI, 24, .inl su2)), (h12, .inl (cL, 24, .inr (.inl nm2)))] sz [.ref h0, .int x1]) (vp_Si (fun r => r = out)) 0 0 (fun _ => False) := by
  refine Met.ofW (cc := cc_V_flaky) (maxL := 5) (ret := (some .boolean)) (by decide) rfl ?_
  intro p e s m args below meth c s₁ B hml hv
  obtain ⟨hargs, hsz, hP, hK, hD0⟩ := hv
  have hx := B.exec
  have hb := B.bytes
  have hr := B.returns
  have hts := atoms_spec (ws := ws_V_flaky) B.pre
  have ht : ∀ w ∈ TB_, w.before args s = true := fun w h => hts w (List.mem_cons_of_mem _ h)
  have hown : s.vm.findClass cn_V = some m.cls := findClass_of_methodNamed B.named
  have hlocks := B.notSynchronized
  subst hsz
  have hD := hD0.self (sz := s.heap.size)
  generalize hAe : va_A [(h0, .inr (5, [.ref h1, .ref h3, .ref h8, .long bn])), (h1, .inr (1, [.ref h2, .int zp])), (h2, .inl (cC, 3000, .inl ch)), (h3, .inr (0, [.ref h4, .ref h5, .ref h6, .ref h7, .int ct, .int lo, .int oc])), (h4, .inl (cI, 24, .inl kd)), (h5, .inl (cI, 24, .inl dp)), (h6, .inl (cI, 24, .inl su)), (h7, .inl (cL, 24, .inr (.inl nm))), (h8, .inr (0, [.ref h9, .ref h10, .ref h11, .ref h12, .int ct2, .int lo2, .int oc2])), (h9, .inl (cI, 24, .inl kd2)), (h10, .inl (cI, 24, .inl dp2)), (h11, .inl (cI, 24, .inl su2)), (h12, .inl (cL, 24, .inr (.inl nm2)))] s.heap.size = A at hD
  have hA : ∀ q : Nat, s.heap.size ≤ q → A q := fun q h => by rw [← hAe]; exact Or.inr h
  have hS : va_S A s.heap s.heap [] := va_S.rf
  have hP : va_P (dC, dI) vwCl [(h0, .inr (5, [.ref h1, .ref h3, .ref h8, .long bn])), (h1, .inr (1, [.ref h2, .int zp])), (h2, .inl (cC, 3000, .inl ch)), (h3, .inr (0, [.ref h4, .ref h5, .ref h6, .ref h7, .int ct, .int lo, .int oc])), (h4, .inl (cI, 24, .inl kd)), (h5, .inl (cI, 24, .inl dp)), (h6, .inl (cI, 24, .inl su)), (h7, .inl (cL, 24, .inr (.inl nm))), (h8, .inr (0, [.ref h9, .ref h10, .ref h11, .ref h12, .int ct2, .int lo2, .int oc2])), (h9, .inl (cI, 24, .inl kd2)), (h10, .inl (cI, 24, .inl dp2)), (h11, .inl (cI, 24, .inl su2)), (h12, .inl (cL, 24, .inr (.inl nm2)))] s.heap := hP
  have hl := lv_entry [.ref h0, .int x1] (n := 5) (Nat.le_of_ble_eq_true rfl)
  have he : entryFrame m args 5 = _ := (congrArg (fun a => entryFrame m a 5) hargs).trans (lg_entry_eq m [.ref h0, .int x1] 5)
  rw [he]
  generalize (lg_sl [.ref h0, .int x1] ++ List.replicate (5 - (lg_sl [.ref h0, .int x1]).length) Slot.unset).toArray = ls at hl ⊢
  have hl : lv_has ls 5 [(0, .ref h0), (1, .int x1)] := hl
  generalize hQ : MQ below _ args s _ _ _ = Q
  have lp4 : ∀ (n4 : Nat), ∀ (x1 : Int32) (x2 : Int32) (x3 : Int32), fl_V_flaky_4 ct kd dp su nm  n4 (x1, x2, x3) = some out → ∀ ls : Array Slot, lv_has ls 5 [(0, .ref h0), (1, .int x1), (2, .int x2), (3, .int x3)] → W p l e (headSpec ws_V_flaky { frames := 3, cells := 0, slots := 0, locals := 67 }).room s m args below meth c s.heap [] 0 0 Q (F0 m 4 ls []) := by
    intro n4
    induction n4 with
    | zero =>
      intro x1 x2 x3 hF
      exact (jv_no hF).elim
    | succ n4 ih4 =>
      have bl48 : ∀ (x1 : Int32) (x2 : Int32) (x3 : Int32) (x4 : Int32), fb_V_flaky_48 ct kd dp su nm (fl_V_flaky_4 ct kd dp su nm  n4) x1 x2 x3 x4 = some out → ∀ ls : Array Slot, lv_has ls 5 [(0, .ref h0), (1, .int x1), (2, .int x2), (3, .int x3), (4, .int x4)] → W p l e (headSpec ws_V_flaky { frames := 3, cells := 0, slots := 0, locals := 67 }).room s m args below meth c s.heap [] 0 0 Q (F0 m 48 ls []) := by
        intro x1 x2 x3 x4 hF ls hl
        unfold fb_V_flaky_48 at hF
        refine lv_iload_n hx hb dd_V_flaky_48 rfl (lv_at hl 2 rfl) ?_
        refine lv_if_ne (tgt := 58) hx hb dd_V_flaky_49 (by decide) (fun c_7 => ?_) (fun c_7 => ?_)
        · have hF := jv_f c_7 hF
          refine lv_iconst (v := 1) hx hb dd_V_flaky_58 (by decide) ?_
          refine lv_goto (tgt := 63) hx hb dd_V_flaky_59 (by decide) ?_
          refine lv_istore_n (lv' := [(2, .int 1), (0, .ref h0), (1, .int x1), (3, .int x3), (4, .int x4)]) hx hb dd_V_flaky_63 rfl hl (by decide) rfl (fun ls hl => ?_)
          refine lv_iinc (v := x3 + 1) (lv' := [(3, .int (x3 + 1)), (2, .int 1), (0, .ref h0), (1, .int x1), (4, .int x4)]) hx hb dd_V_flaky_64 hl (k := 3) rfl rfl (by decide) rfl (fun ls hl => ?_)
          refine lv_goto (tgt := 4) hx hb dd_V_flaky_67 (by decide) ?_
          exact ih4 x1 1 (x3 + 1) hF ls (lv_sub hl [2, 3, 1, 0] rfl)
        · have hF := jv_t c_7 hF
          refine lv_iload hx hb dd_V_flaky_52 (lv_at hl 4 rfl) ?_
          refine lv_iconst (v := 1) hx hb dd_V_flaky_54 (by decide) ?_
          refine lv_icmp_ne (tgt := 62) hx hb dd_V_flaky_55 (by decide) (fun c_8 => ?_) (fun c_8 => ?_)
          · have hF := jv_f c_8 hF
            refine lv_iconst (v := 0) hx hb dd_V_flaky_62 (by decide) ?_
            refine lv_istore_n (lv' := [(2, .int 0), (0, .ref h0), (1, .int x1), (3, .int x3), (4, .int x4)]) hx hb dd_V_flaky_63 rfl hl (by decide) rfl (fun ls hl => ?_)
            refine lv_iinc (v := x3 + 1) (lv' := [(3, .int (x3 + 1)), (2, .int 0), (0, .ref h0), (1, .int x1), (4, .int x4)]) hx hb dd_V_flaky_64 hl (k := 3) rfl rfl (by decide) rfl (fun ls hl => ?_)
            refine lv_goto (tgt := 4) hx hb dd_V_flaky_67 (by decide) ?_
            exact ih4 x1 0 (x3 + 1) hF ls (lv_sub hl [2, 3, 1, 0] rfl)
          · have hF := jv_t c_8 hF
            refine lv_iconst (v := 1) hx hb dd_V_flaky_58 (by decide) ?_
            refine lv_goto (tgt := 63) hx hb dd_V_flaky_59 (by decide) ?_
            refine lv_istore_n (lv' := [(2, .int 1), (0, .ref h0), (1, .int x1), (3, .int x3), (4, .int x4)]) hx hb dd_V_flaky_63 rfl hl (by decide) rfl (fun ls hl => ?_)
            refine lv_iinc (v := x3 + 1) (lv' := [(3, .int (x3 + 1)), (2, .int 1), (0, .ref h0), (1, .int x1), (4, .int x4)]) hx hb dd_V_flaky_64 hl (k := 3) rfl rfl (by decide) rfl (fun ls hl => ?_)
            refine lv_goto (tgt := 4) hx hb dd_V_flaky_67 (by decide) ?_
            exact ih4 x1 1 (x3 + 1) hF ls (lv_sub hl [2, 3, 1, 0] rfl)
      intro x1 x2 x3 hF ls hl
      have hF : fb_V_flaky_4 ct kd dp su nm  (fl_V_flaky_4 ct kd dp su nm  n4) x1 x2 x3 = some out := hF
      unfold fb_V_flaky_4 at hF
      refine lv_iload_n hx hb dd_V_flaky_4 rfl (lv_at hl 3 rfl) ?_
      refine lv_aload_n hx hb dd_V_flaky_5 rfl (lv_at hl 0 rfl) ?_
      refine va_get (D := (dC, dI)) (ci := 5) (v := .ref h3) (C := cn_V) (T := tt_V) (N := 4) hx hb ht in_V hown hK hP 0 rfl rfl 1 (by decide) (ht _ tw_1_66) (fun _ h9 => h9) rfl dd_V_flaky_6 ?_
      obtain ⟨o_9, ho_9, hF⟩ := jv_bi hF
      refine jv_ci (va_runV (C := cn_R) (As := []) (rest := [.int x3]) ⟨hx, hb, hml, hown, ht⟩ (c_R_size l dC dI cI cL cC cZ h3 h4 h5 h6 h7 s.heap.size ct lo oc kd dp su nm _ ho_9) (cwV 0 ht (gi_V tw_1_138 tw_1_139 tw_1_140 tw_1_3 tw_1_141) rfl rfl rfl (by decide +kernel) ⟨Nat.le_of_ble_eq_true rfl, Nat.le_of_ble_eq_true rfl⟩) (jv_pv hK hP hD [3, 4, 5, 6, 7] rfl (by decide) rfl (va_recv hK hP (ci := 0) (q0 := 3) rfl rfl)) rfl rfl hl.1 rfl (lv_room (Nat.le_of_ble_eq_true rfl)) dd_V_flaky_9 ⟨Nat.le_of_ble_eq_true rfl, Nat.le_of_ble_eq_true rfl⟩) ?_
      refine lv_icmp_ge (tgt := 70) hx hb dd_V_flaky_12 (by decide) (fun c_9 => ?_) (fun c_9 => ?_)
      · have hF := jv_t c_9 hF
        refine lv_iconst (v := 0) hx hb dd_V_flaky_70 (by decide) ?_
        subst hQ
        exact W.zret (v := 0) hx hb hr rfl (fun t ht hW => ⟨0, rfl, (Option.some.inj hF), ht⟩) (fun _ h => by cases h) dd_V_flaky_71
      · have hF := jv_f c_9 hF
        refine lv_aload_n hx hb dd_V_flaky_15 rfl (lv_at hl 0 rfl) ?_
        refine va_get (D := (dC, dI)) (ci := 5) (v := .ref h3) (C := cn_V) (T := tt_V) (N := 4) hx hb ht in_V hown hK hP 0 rfl rfl 1 (by decide) (ht _ tw_1_66) (fun _ h9 => h9) rfl dd_V_flaky_16 ?_
        refine lv_iload_n hx hb dd_V_flaky_19 rfl (lv_at hl 1 rfl) ?_
        refine lv_iload_n hx hb dd_V_flaky_20 rfl (lv_at hl 3 rfl) ?_
        obtain ⟨o_21, ho_21, hF⟩ := jv_bi hF
        refine jv_ci (va_runV (C := cn_R) (As := [.int x1, .int x3]) (rest := []) ⟨hx, hb, hml, hown, ht⟩ (c_R_areAttempts l dC dI cI cL cC cZ h3 h4 h5 h6 h7 s.heap.size ct lo oc kd dp su nm x1 x3 _ ho_21) (cwV 2 ht (gi_V tw_3_24 tw_3_25 tw_3_26 tw_1_3 tw_3_27) rfl rfl rfl (by decide +kernel) ⟨Nat.le_of_ble_eq_true rfl, Nat.le_of_ble_eq_true rfl⟩) (jv_pv hK hP hD [3, 4, 5, 6, 7] rfl (by decide) rfl (va_recv hK hP (ci := 0) (q0 := 3) rfl rfl)) rfl rfl hl.1 rfl (lv_room (Nat.le_of_ble_eq_true rfl)) dd_V_flaky_21 ⟨Nat.le_of_ble_eq_true rfl, Nat.le_of_ble_eq_true rfl⟩) ?_
        refine lv_if_eq (tgt := 64) hx hb dd_V_flaky_24 (by decide) (fun c_10 => ?_) (fun c_10 => ?_)
        · have hF := jv_t c_10 hF
          refine lv_iinc (v := x3 + 1) (lv' := [(3, .int (x3 + 1)), (0, .ref h0), (1, .int x1), (2, .int x2)]) hx hb dd_V_flaky_64 hl (k := 3) rfl rfl (by decide) rfl (fun ls hl => ?_)
          refine lv_goto (tgt := 4) hx hb dd_V_flaky_67 (by decide) ?_
          exact ih4 x1 x2 (x3 + 1) hF ls (lv_sub hl [1, 2, 3, 0] rfl)
        · have hF := jv_f c_10 hF
          refine lv_aload_n hx hb dd_V_flaky_27 rfl (lv_at hl 0 rfl) ?_
          refine va_get (D := (dC, dI)) (ci := 5) (v := .ref h3) (C := cn_V) (T := tt_V) (N := 4) hx hb ht in_V hown hK hP 0 rfl rfl 1 (by decide) (ht _ tw_1_66) (fun _ h9 => h9) rfl dd_V_flaky_28 ?_
          refine lv_iload_n hx hb dd_V_flaky_31 rfl (lv_at hl 3 rfl) ?_
          obtain ⟨o_32, ho_32, hF⟩ := jv_bi hF
          refine jv_ci (va_runV (C := cn_R) (As := [.int x3]) (rest := []) ⟨hx, hb, hml, hown, ht⟩ (c_R_kindOf l dC dI cI cL cC cZ h3 h4 h5 h6 h7 s.heap.size ct lo oc kd dp su nm x3 _ ho_32) (cwV 1 ht (gi_V tw_1_147 tw_1_148 tw_1_149 tw_1_3 tw_1_150) rfl rfl rfl (by decide +kernel) ⟨Nat.le_of_ble_eq_true rfl, Nat.le_of_ble_eq_true rfl⟩) (jv_pv hK hP hD [3, 4, 5, 6, 7] rfl (by decide) rfl (va_recv hK hP (ci := 0) (q0 := 3) rfl rfl)) rfl rfl hl.1 rfl (lv_room (Nat.le_of_ble_eq_true rfl)) dd_V_flaky_32 ⟨Nat.le_of_ble_eq_true rfl, Nat.le_of_ble_eq_true rfl⟩) ?_
          refine lv_istore (lv' := [(4, .int o_32), (0, .ref h0), (1, .int x1), (2, .int x2), (3, .int x3)]) hx hb dd_V_flaky_35 hl (by decide) rfl (fun ls hl => ?_)
          refine lv_iload_n hx hb dd_V_flaky_37 rfl (lv_at hl 3 rfl) ?_
          refine lv_if_eq (tgt := 48) hx hb dd_V_flaky_38 (by decide) (fun c_11 => ?_) (fun c_11 => ?_)
          · have hF := jv_t c_11 hF
            exact bl48 x1 x2 x3 o_32 hF ls (lv_sub hl [1, 2, 3, 4, 0] rfl)
          · have hF := jv_f c_11 hF
            refine lv_iload hx hb dd_V_flaky_41 (lv_at hl 0 rfl) ?_
            refine lv_if_ne (tgt := 48) hx hb dd_V_flaky_43 (by decide) (fun c_12 => ?_) (fun c_12 => ?_)
            · have hF := jv_f c_12 hF
              exact bl48 x1 x2 x3 o_32 hF ls (lv_sub hl [1, 2, 3, 4, 0] rfl)
            · have hF := jv_t c_12 hF
              refine lv_iconst (v := 1) hx hb dd_V_flaky_46 (by decide) ?_
              subst hQ
              exact W.zret (v := 1) hx hb hr rfl (fun t ht hW => ⟨1, rfl, (Option.some.inj hF), ht⟩) (fun _ h => by cases h) dd_V_flaky_47
  unfold fn_V_flaky at hF
  refine lv_iconst (v := 0) hx hb dd_V_flaky_0 (by decide) ?_
  refine lv_istore_n (lv' := [(2, .int 0), (0, .ref h0), (1, .int x1)]) hx hb dd_V_flaky_1 rfl hl (by decide) rfl (fun ls hl => ?_)
  refine lv_iconst (v := 0) hx hb dd_V_flaky_2 (by decide) ?_
  refine lv_istore_n (lv' := [(3, .int 0), (2, .int 0), (0, .ref h0), (1, .int x1)]) hx hb dd_V_flaky_3 rfl hl (by decide) rfl (fun ls hl => ?_)
  exact lp4 4000 x1 0 0 hF ls (lv_sub hl [2, 3, 1, 0] rfl)
set_option maxHeartbeats 40000000 in
set_option maxRecDepth 100000 in
theorem c_V_addWithBegunName (l : Launch) (dC : Nat → ClassId) (dI : Nat → Nat → Nat) (cI cL cC cZ : ClassId) (h0 h1 h2 h3 h4 h5 h6 h7 h8 h9 h10 h11 h12 : Nat) (sz : Nat) (bn : Int64) (zp : Int32) (ch : Nat → Int32) (ct : Int32) (lo : Int32) (oc : Int32) (kd : Nat → Int32) (dp : Nat → Int32) (su : Nat → Int32) (nm : Nat → Int64) (ct2 : Int32) (lo2 : Int32) (oc2 : Int32) (kd2 : Nat → Int32) (dp2 : Nat → Int32) (su2 : Nat → Int32) (nm2 : Nat → Int64) (x1 : Int32) (out : Int32 × Int64 × Int32 × Int32 × Int32 × (Nat → Int32) × (Nat → Int32) × (Nat → Int32) × (Nat → Int64)) (hF : fn_V_addWithBegunName bn ct lo oc kd dp su nm x1 = some out) : Met l yy_V_addWithBegunName ws_V_addWithBegunName { frames := 1, cells := 0, slots := 0, locals := 24 } (mP_ (dC, dI) (tk_ cI cL cC cZ) [(h0, .inr (5, [.ref h1, .ref h3, .ref h8, .long bn])), (h1, .inr (1, [.ref h2, .int zp])), (h2, .inl (cC, 3000, .inl ch)), (h3, .inr (0, [.ref h4, .ref h5, .ref h6, .ref h7, .int ct, .int lo, .int oc])), (h4, .inl (cI, 24, .inl kd)), (h5, .inl (cI, 24, .inl dp)), (h6, .inl (cI, 24, .inl su)), (h7, .inl (cL, 24, .inr (.inl nm))), (h8, .inr (0, [.ref h9, .ref h10, .ref h11, .ref h12, .int ct2, .int lo2, .int oc2])), (h9, .inl (cI, 24, .inl kd2)), (h10, .inl (cI, 24, .inl dp2)), (h11, .inl (cI, 24, .inl su2)), (h12, .inl (cL, 24, .inr (.inl nm2)))] sz [.ref h0, .int x1]) (va_Qi (fun r (_ : Unit) => r = out.1) (mB_ (dC, dI) (tk_ cI cL cC cZ) [(h0, .inr (5, [.ref h1, .ref h3, .ref h8, .long out.2.1])), (h1, .inr (1, [.ref h2, .int zp])), (h2, .inl (cC, 3000, .inl ch)), (h3, .inr (0, [.ref h4, .ref h5, .ref h6, .ref h7, .int out.2.2.1, .int out.2.2.2.1, .int out.2.2.2.2.1])), (h4, .inl (cI, 24, .inl out.2.2.2.2.2.1)), (h5, .inl (cI, 24, .inl out.2.2.2.2.2.2.1)), (h6, .inl (cI, 24, .inl out.2.2.2.2.2.2.2.1)), (h7, .inl (cL, 24, .inr (.inl out.2.2.2.2.2.2.2.2))), (h8, .inr (0, [.ref h9, .ref h10, .ref h11, .ref h12, .int ct2, .int lo2, .int oc2])), (h9, .inl (cI, 24, .inl kd2)), (h10, .inl (cI, 24, .inl dp2)), (h11, .inl (cI, 24, .inl su2)), (h12, .inl (cL, 24, .inr (.inl nm2)))] (va_A [(h0, .inr (5, [.ref h1, .ref h3, .ref h8, .long bn])), (h1, .inr (1, [.ref h2, .int zp])), (h2, .inl (cC, 3000, .inl ch)), (h3, .inr (0, [.ref h4, .ref h5, .ref h6, .ref h7, .int ct, .int lo, .int oc])), (h4, .inl (cI, 24, .inl kd)), (h5, .inl (cI, 24, .inl dp)), (h6, .inl (cI, 24, .inl su)), (h7, .inl (cL, 24, .inr (.inl nm))), (h8, .inr (0, [.ref h9, .ref h10, .ref h11, .ref h12, .int ct2, .int lo2, .int oc2])), (h9, .inl (cI, 24, .inl kd2)), (h10, .inl (cI, 24, .inl dp2)), (h11, .inl (cI, 24, .inl su2)), (h12, .inl (cL, 24, .inr (.inl nm2)))] sz)) (va_A [(h0, .inr (5, [.ref h1, .ref h3, .ref h8, .long bn])), (h1, .inr (1, [.ref h2, .int zp])), (h2, .inl (cC, 3000, .inl ch)), (h3, .inr (0, [.ref h4, .ref h5, .ref h6, .ref h7, .int ct, .int lo, .int oc])), (h4, .inl (cI, 24, .inl kd)), (h5, .inl (cI, 24, .inl dp)), (h6, .inl (cI, 24, .inl su)), (h7, .inl (cL, 24, .inr (.inl nm))), (h8, .inr (0, [.ref h9, .ref h10, .ref h11, .ref h12, .int ct2, .int lo2, .int oc2])), (h9, .inl (cI, 24, .inl kd2)), (h10, .inl (cI, 24, .inl dp2)), (h11, .inl (cI, 24, .inl su2)), (h12, .inl (cL, 24, .inr (.inl nm2)))] sz)) 0 0 (va_A [(h0, .inr (5, [.ref h1, .ref h3, .ref h8, .long bn])), (h1, .inr (1, [.ref h2, .int zp])), (h2, .inl (cC, 3000, .inl ch)), (h3, .inr (0, [.ref h4, .ref h5, .ref h6, .ref h7, .int ct, .int lo, .int oc])), (h4, .inl (cI, 24, .inl kd)), (h5, .inl (cI, 24, .inl dp)), (h6, .inl (cI, 24, .inl su)), (h7, .inl (cL, 24, .inr (.inl nm))), (h8, .inr (0, [.ref h9, .ref h10, .ref h11, .ref h12, .int ct2, .int lo2, .int oc2])), (h9, .inl (cI, 24, .inl kd2)), (h10, .inl (cI, 24, .inl dp2)), (h11, .inl (cI, 24, .inl su2)), (h12, .inl (cL, 24, .inr (.inl nm2)))] sz) := by
  refine Met.ofW (cc := cc_V_addWithBegunName) (maxL := 3) (ret := (some .int)) (by decide) rfl ?_
  intro p e s m args below meth c s₁ B hml hv
  obtain ⟨hargs, hsz, hP, hK, hD0⟩ := hv
  have hx := B.exec
  have hb := B.bytes
  have hr := B.returns
  have hts := atoms_spec (ws := ws_V_addWithBegunName) B.pre
  have ht : ∀ w ∈ TB_, w.before args s = true := fun w h => hts w (List.mem_cons_of_mem _ h)
  have hown : s.vm.findClass cn_V = some m.cls := findClass_of_methodNamed B.named
  have hlocks := B.notSynchronized
  subst hsz
  have hD := hD0.self (sz := s.heap.size)
  generalize hAe : va_A [(h0, .inr (5, [.ref h1, .ref h3, .ref h8, .long bn])), (h1, .inr (1, [.ref h2, .int zp])), (h2, .inl (cC, 3000, .inl ch)), (h3, .inr (0, [.ref h4, .ref h5, .ref h6, .ref h7, .int ct, .int lo, .int oc])), (h4, .inl (cI, 24, .inl kd)), (h5, .inl (cI, 24, .inl dp)), (h6, .inl (cI, 24, .inl su)), (h7, .inl (cL, 24, .inr (.inl nm))), (h8, .inr (0, [.ref h9, .ref h10, .ref h11, .ref h12, .int ct2, .int lo2, .int oc2])), (h9, .inl (cI, 24, .inl kd2)), (h10, .inl (cI, 24, .inl dp2)), (h11, .inl (cI, 24, .inl su2)), (h12, .inl (cL, 24, .inr (.inl nm2)))] s.heap.size = A at hD ⊢
  have hA : ∀ q : Nat, s.heap.size ≤ q → A q := fun q h => by rw [← hAe]; exact Or.inr h
  have hS : va_S A s.heap s.heap [] := va_S.rf
  have hP : va_P (dC, dI) vwCl [(h0, .inr (5, [.ref h1, .ref h3, .ref h8, .long bn])), (h1, .inr (1, [.ref h2, .int zp])), (h2, .inl (cC, 3000, .inl ch)), (h3, .inr (0, [.ref h4, .ref h5, .ref h6, .ref h7, .int ct, .int lo, .int oc])), (h4, .inl (cI, 24, .inl kd)), (h5, .inl (cI, 24, .inl dp)), (h6, .inl (cI, 24, .inl su)), (h7, .inl (cL, 24, .inr (.inl nm))), (h8, .inr (0, [.ref h9, .ref h10, .ref h11, .ref h12, .int ct2, .int lo2, .int oc2])), (h9, .inl (cI, 24, .inl kd2)), (h10, .inl (cI, 24, .inl dp2)), (h11, .inl (cI, 24, .inl su2)), (h12, .inl (cL, 24, .inr (.inl nm2)))] s.heap := hP
  have hl := lv_entry [.ref h0, .int x1] (n := 3) (Nat.le_of_ble_eq_true rfl)
  have he : entryFrame m args 3 = _ := (congrArg (fun a => entryFrame m a 3) hargs).trans (lg_entry_eq m [.ref h0, .int x1] 3)
  rw [he]
  generalize (lg_sl [.ref h0, .int x1] ++ List.replicate (3 - (lg_sl [.ref h0, .int x1]).length) Slot.unset).toArray = ls at hl ⊢
  have hl : lv_has ls 3 [(0, .ref h0), (1, .int x1)] := hl
  generalize hQ : MQ below _ args s _ _ _ = Q
  unfold fn_V_addWithBegunName at hF
  refine lv_aload_n hx hb dd_V_addWithBegunName_0 rfl (lv_at hl 0 rfl) ?_
  refine va_get (D := (dC, dI)) (ci := 5) (v := .ref h3) (C := cn_V) (T := tt_V) (N := 4) hx hb ht in_V hown hK hP 0 rfl rfl 1 (by decide) (ht _ tw_1_66) (fun _ h9 => h9) rfl dd_V_addWithBegunName_1 ?_
  refine lv_iload_n hx hb dd_V_addWithBegunName_4 rfl (lv_at hl 1 rfl) ?_
  refine lv_aload_n hx hb dd_V_addWithBegunName_5 rfl (lv_at hl 0 rfl) ?_
  refine va_get (D := (dC, dI)) (ci := 5) (v := .long bn) (C := cn_V) (T := tt_V) (N := 4) hx hb ht in_V hown hK hP 0 rfl rfl 3 (by decide) (ht _ tw_1_68) (fun _ h9 => h9) rfl dd_V_addWithBegunName_6 ?_
  obtain ⟨o_9, ho_9, hF⟩ := jv_bi hF
  refine jv_mi (wr := [(h0, .inr (5, [.ref h1, .ref h3, .ref h8, .long bn])), (h1, .inr (1, [.ref h2, .int zp])), (h2, .inl (cC, 3000, .inl ch)), (h8, .inr (0, [.ref h9, .ref h10, .ref h11, .ref h12, .int ct2, .int lo2, .int oc2])), (h9, .inl (cI, 24, .inl kd2)), (h10, .inl (cI, 24, .inl dp2)), (h11, .inl (cI, 24, .inl su2)), (h12, .inl (cL, 24, .inr (.inl nm2)))]) (w1 := [(h3, .inr (0, [.ref h4, .ref h5, .ref h6, .ref h7, .int o_9.2.1, .int o_9.2.2.1, .int o_9.2.2.2.1])), (h4, .inl (cI, 24, .inl o_9.2.2.2.2.1)), (h5, .inl (cI, 24, .inl o_9.2.2.2.2.2.1)), (h6, .inl (cI, 24, .inl o_9.2.2.2.2.2.2.1)), (h7, .inl (cL, 24, .inr (.inl o_9.2.2.2.2.2.2.2)))]) (va_runV (C := cn_R) (As := [.int x1, .long bn]) (rest := []) ⟨hx, hb, hml, hown, ht⟩ (c_R_addNode l dC dI cI cL cC cZ h3 h4 h5 h6 h7 s.heap.size ct lo oc kd dp su nm x1 bn _ ho_9) (cwV 2 ht (gi_V tw_1_102 tw_1_103 tw_1_104 tw_1_3 tw_1_105) rfl rfl rfl (by decide +kernel) ⟨Nat.le_of_ble_eq_true rfl, Nat.le_of_ble_eq_true rfl⟩) (jv_pv hK hP hD [3, 4, 5, 6, 7] rfl (by decide) rfl (va_recv hK hP (ci := 0) (q0 := 3) rfl rfl)) rfl rfl hl.1 rfl (lv_room (Nat.le_of_ble_eq_true rfl)) dd_V_addWithBegunName_9 ⟨Nat.le_of_ble_eq_true rfl, Nat.le_of_ble_eq_true rfl⟩) hP hD hS hA [3, 4, 5, 6, 7] [0, 1, 2, 8, 9, 10, 11, 12] rfl rfl (by decide) (by decide) (fun H_6 locs_7 hP hD hS => ?_)
  have hP : va_P (dC, dI) vwCl [(h0, .inr (5, [.ref h1, .ref h3, .ref h8, .long bn])), (h1, .inr (1, [.ref h2, .int zp])), (h2, .inl (cC, 3000, .inl ch)), (h3, .inr (0, [.ref h4, .ref h5, .ref h6, .ref h7, .int o_9.2.1, .int o_9.2.2.1, .int o_9.2.2.2.1])), (h4, .inl (cI, 24, .inl o_9.2.2.2.2.1)), (h5, .inl (cI, 24, .inl o_9.2.2.2.2.2.1)), (h6, .inl (cI, 24, .inl o_9.2.2.2.2.2.2.1)), (h7, .inl (cL, 24, .inr (.inl o_9.2.2.2.2.2.2.2))), (h8, .inr (0, [.ref h9, .ref h10, .ref h11, .ref h12, .int ct2, .int lo2, .int oc2])), (h9, .inl (cI, 24, .inl kd2)), (h10, .inl (cI, 24, .inl dp2)), (h11, .inl (cI, 24, .inl su2)), (h12, .inl (cL, 24, .inr (.inl nm2)))] H_6 := hP.sub [0, 1, 2, 8, 9, 10, 11, 12, 3, 4, 5, 6, 7] rfl
  have hD : va_D A [(h0, .inr (5, [.ref h1, .ref h3, .ref h8, .long bn])), (h1, .inr (1, [.ref h2, .int zp])), (h2, .inl (cC, 3000, .inl ch)), (h3, .inr (0, [.ref h4, .ref h5, .ref h6, .ref h7, .int o_9.2.1, .int o_9.2.2.1, .int o_9.2.2.2.1])), (h4, .inl (cI, 24, .inl o_9.2.2.2.2.1)), (h5, .inl (cI, 24, .inl o_9.2.2.2.2.2.1)), (h6, .inl (cI, 24, .inl o_9.2.2.2.2.2.2.1)), (h7, .inl (cL, 24, .inr (.inl o_9.2.2.2.2.2.2.2))), (h8, .inr (0, [.ref h9, .ref h10, .ref h11, .ref h12, .int ct2, .int lo2, .int oc2])), (h9, .inl (cI, 24, .inl kd2)), (h10, .inl (cI, 24, .inl dp2)), (h11, .inl (cI, 24, .inl su2)), (h12, .inl (cL, 24, .inr (.inl nm2)))] := hD.sub [0, 1, 2, 8, 9, 10, 11, 12, 3, 4, 5, 6, 7] (by decide) rfl
  refine lv_istore_n (lv' := [(2, .int o_9.1), (0, .ref h0), (1, .int x1)]) hx hb dd_V_addWithBegunName_12 rfl hl (by decide) rfl (fun ls hl => ?_)
  refine lv_iload_n hx hb dd_V_addWithBegunName_13 rfl (lv_at hl 0 rfl) ?_
  refine lv_if_lt (tgt := 22) hx hb dd_V_addWithBegunName_14 (by decide) (fun c_8 => ?_) (fun c_8 => ?_)
  · have hF := jv_t c_8 hF
    refine lv_iload_n hx hb dd_V_addWithBegunName_22 rfl (lv_at hl 0 rfl) ?_
    subst hQ
    obtain rfl := Option.some.inj hF
    exact W.iret (v := o_9.1) hx hb hr (fun t ht hW => ⟨⟨o_9.1, (), rfl, rfl, by rw [ht]; exact hP, va_K.moved hW.alike hK, hD⟩, hS.F ht⟩) hS.2.2 dd_V_addWithBegunName_23
  · have hF := jv_f c_8 hF
    refine lv_aload_n hx hb dd_V_addWithBegunName_17 rfl (lv_at hl 1 rfl) ?_
    refine lv_lconst (v := 0) hx hb dd_V_addWithBegunName_18 (by decide) ?_
    refine va_put (D := (dC, dI)) (ci := 5) (v := .long 0) (ty := .long) (C := cn_V) (T := tt_V) (N := 4) hx hb ht in_V ty_V tyok_V nm_V hown hK hP hD hS 0 rfl rfl 3 (by decide) (ht _ tw_1_68) (fun _ h9 => h9) rfl (by decide +kernel) rfl rfl (Nat.le_of_ble_eq_true rfl) dd_V_addWithBegunName_19 (fun H_9 locs_10 hP hD hS => ?_)
    have hP : va_P (dC, dI) vwCl [(h0, .inr (5, [.ref h1, .ref h3, .ref h8, .long 0])), (h1, .inr (1, [.ref h2, .int zp])), (h2, .inl (cC, 3000, .inl ch)), (h3, .inr (0, [.ref h4, .ref h5, .ref h6, .ref h7, .int o_9.2.1, .int o_9.2.2.1, .int o_9.2.2.2.1])), (h4, .inl (cI, 24, .inl o_9.2.2.2.2.1)), (h5, .inl (cI, 24, .inl o_9.2.2.2.2.2.1)), (h6, .inl (cI, 24, .inl o_9.2.2.2.2.2.2.1)), (h7, .inl (cL, 24, .inr (.inl o_9.2.2.2.2.2.2.2))), (h8, .inr (0, [.ref h9, .ref h10, .ref h11, .ref h12, .int ct2, .int lo2, .int oc2])), (h9, .inl (cI, 24, .inl kd2)), (h10, .inl (cI, 24, .inl dp2)), (h11, .inl (cI, 24, .inl su2)), (h12, .inl (cL, 24, .inr (.inl nm2)))] H_9 := hP
    have hD : va_D A [(h0, .inr (5, [.ref h1, .ref h3, .ref h8, .long 0])), (h1, .inr (1, [.ref h2, .int zp])), (h2, .inl (cC, 3000, .inl ch)), (h3, .inr (0, [.ref h4, .ref h5, .ref h6, .ref h7, .int o_9.2.1, .int o_9.2.2.1, .int o_9.2.2.2.1])), (h4, .inl (cI, 24, .inl o_9.2.2.2.2.1)), (h5, .inl (cI, 24, .inl o_9.2.2.2.2.2.1)), (h6, .inl (cI, 24, .inl o_9.2.2.2.2.2.2.1)), (h7, .inl (cL, 24, .inr (.inl o_9.2.2.2.2.2.2.2))), (h8, .inr (0, [.ref h9, .ref h10, .ref h11, .ref h12, .int ct2, .int lo2, .int oc2])), (h9, .inl (cI, 24, .inl kd2)), (h10, .inl (cI, 24, .inl dp2)), (h11, .inl (cI, 24, .inl su2)), (h12, .inl (cL, 24, .inr (.inl nm2)))] := hD
    refine lv_iload_n hx hb dd_V_addWithBegunName_22 rfl (lv_at hl 0 rfl) ?_
    subst hQ
    obtain rfl := Option.some.inj hF
    exact W.iret (v := o_9.1) hx hb hr (fun t ht hW => ⟨⟨o_9.1, (), rfl, rfl, by rw [ht]; exact hP, va_K.moved hW.alike hK, hD⟩, hS.F ht⟩) hS.2.2 dd_V_addWithBegunName_23
set_option maxHeartbeats 40000000 in
set_option maxRecDepth 100000 in
theorem c_V_isPlain (l : Launch) (dC : Nat → ClassId) (dI : Nat → Nat → Nat) (cI cL cC cZ : ClassId) (sz : Nat)  (x0 : Int32) (out : Int32) (hF : fn_V_isPlain x0 = some out) : Met l yy_V_isPlain ws_V_isPlain { frames := 0, cells := 0, slots := 0, locals := 0 } (mP_ (dC, dI) (tk_ cI cL cC cZ) [] sz [.int x0]) (vp_Si (fun r => r = out)) 0 0 (fun _ => False) := by
  refine Met.ofW (cc := cc_V_isPlain) (maxL := 1) (ret := (some .boolean)) (by decide) rfl ?_
  intro p e s m args below meth c s₁ B hml hv
  obtain ⟨hargs, hsz, hP, hK, hD0⟩ := hv
  have hx := B.exec
  have hb := B.bytes
  have hr := B.returns
  have hts := atoms_spec (ws := ws_V_isPlain) B.pre
  have ht : ∀ w ∈ TB_, w.before args s = true := fun w h => hts w (List.mem_cons_of_mem _ h)
  have hown : s.vm.findClass cn_V = some m.cls := findClass_of_methodNamed B.named
  have hlocks := B.notSynchronized
  subst hsz
  have hD := hD0.self (sz := s.heap.size)
  generalize hAe : va_A [] s.heap.size = A at hD
  have hA : ∀ q : Nat, s.heap.size ≤ q → A q := fun q h => by rw [← hAe]; exact Or.inr h
  have hS : va_S A s.heap s.heap [] := va_S.rf
  have hP : va_P (dC, dI) vwCl [] s.heap := hP
  have hl := lv_entry [.int x0] (n := 1) (Nat.le_of_ble_eq_true rfl)
  have he : entryFrame m args 1 = _ := (congrArg (fun a => entryFrame m a 1) hargs).trans (lg_entry_eq m [.int x0] 1)
  rw [he]
  generalize (lg_sl [.int x0] ++ List.replicate (1 - (lg_sl [.int x0]).length) Slot.unset).toArray = ls at hl ⊢
  have hl : lv_has ls 1 [(0, .int x0)] := hl
  generalize hQ : MQ below _ args s _ _ _ = Q
  unfold fn_V_isPlain at hF
  refine lv_iload_n hx hb dd_V_isPlain_0 rfl (lv_at hl 0 rfl) ?_
  refine lv_bipush (v := 32) hx hb dd_V_isPlain_1 (by decide) ?_
  refine lv_icmp_lt (tgt := 16) hx hb dd_V_isPlain_3 (by decide) (fun c_3 => ?_) (fun c_3 => ?_)
  · have hF := jv_t c_3 hF
    refine lv_iconst (v := 0) hx hb dd_V_isPlain_16 (by decide) ?_
    subst hQ
    exact W.zret (v := 0) hx hb hr rfl (fun t ht hW => ⟨0, rfl, (Option.some.inj hF), ht⟩) (fun _ h => by cases h) dd_V_isPlain_17
  · have hF := jv_f c_3 hF
    refine lv_iload_n hx hb dd_V_isPlain_6 rfl (lv_at hl 0 rfl) ?_
    refine lv_bipush (v := 126) hx hb dd_V_isPlain_7 (by decide) ?_
    refine lv_icmp_gt (tgt := 16) hx hb dd_V_isPlain_9 (by decide) (fun c_4 => ?_) (fun c_4 => ?_)
    · have hF := jv_t c_4 hF
      refine lv_iconst (v := 0) hx hb dd_V_isPlain_16 (by decide) ?_
      subst hQ
      exact W.zret (v := 0) hx hb hr rfl (fun t ht hW => ⟨0, rfl, (Option.some.inj hF), ht⟩) (fun _ h => by cases h) dd_V_isPlain_17
    · have hF := jv_f c_4 hF
      refine lv_iconst (v := 1) hx hb dd_V_isPlain_12 (by decide) ?_
      refine lv_goto (tgt := 17) hx hb dd_V_isPlain_13 (by decide) ?_
      subst hQ
      exact W.zret (v := 1) hx hb hr rfl (fun t ht hW => ⟨1, rfl, (Option.some.inj hF), ht⟩) (fun _ h => by cases h) dd_V_isPlain_17
set_option maxHeartbeats 40000000 in
set_option maxRecDepth 100000 in
theorem c_V_isOfPages (l : Launch) (dC : Nat → ClassId) (dI : Nat → Nat → Nat) (cI cL cC cZ : ClassId) (sz : Nat)  (x0 : Int32) (out : Int32) (hF : fn_V_isOfPages x0 = some out) : Met l yy_V_isOfPages ws_V_isOfPages { frames := 1, cells := 0, slots := 0, locals := 20 } (mP_ (dC, dI) (tk_ cI cL cC cZ) [] sz [.int x0]) (vp_Si (fun r => r = out)) 0 0 (fun _ => False) := by
  refine Met.ofW (cc := cc_V_isOfPages) (maxL := 1) (ret := (some .boolean)) (by decide) rfl ?_
  intro p e s m args below meth c s₁ B hml hv
  obtain ⟨hargs, hsz, hP, hK, hD0⟩ := hv
  have hx := B.exec
  have hb := B.bytes
  have hr := B.returns
  have hts := atoms_spec (ws := ws_V_isOfPages) B.pre
  have ht : ∀ w ∈ TB_, w.before args s = true := fun w h => hts w (List.mem_cons_of_mem _ h)
  have hown : s.vm.findClass cn_V = some m.cls := findClass_of_methodNamed B.named
  have hlocks := B.notSynchronized
  subst hsz
  have hD := hD0.self (sz := s.heap.size)
  generalize hAe : va_A [] s.heap.size = A at hD
  have hA : ∀ q : Nat, s.heap.size ≤ q → A q := fun q h => by rw [← hAe]; exact Or.inr h
  have hS : va_S A s.heap s.heap [] := va_S.rf
  have hP : va_P (dC, dI) vwCl [] s.heap := hP
  have hl := lv_entry [.int x0] (n := 1) (Nat.le_of_ble_eq_true rfl)
  have he : entryFrame m args 1 = _ := (congrArg (fun a => entryFrame m a 1) hargs).trans (lg_entry_eq m [.int x0] 1)
  rw [he]
  generalize (lg_sl [.int x0] ++ List.replicate (1 - (lg_sl [.int x0]).length) Slot.unset).toArray = ls at hl ⊢
  have hl : lv_has ls 1 [(0, .int x0)] := hl
  generalize hQ : MQ below _ args s _ _ _ = Q
  unfold fn_V_isOfPages at hF
  refine lv_iload_n hx hb dd_V_isOfPages_0 rfl (lv_at hl 0 rfl) ?_
  refine lv_bipush (v := 10) hx hb dd_V_isOfPages_1 (by decide) ?_
  refine lv_icmp_eq (tgt := 13) hx hb dd_V_isOfPages_3 (by decide) (fun c_3 => ?_) (fun c_3 => ?_)
  · have hF := jv_t c_3 hF
    refine lv_iconst (v := 1) hx hb dd_V_isOfPages_13 (by decide) ?_
    refine lv_goto (tgt := 18) hx hb dd_V_isOfPages_14 (by decide) ?_
    subst hQ
    exact W.zret (v := 1) hx hb hr rfl (fun t ht hW => ⟨1, rfl, (Option.some.inj hF), ht⟩) (fun _ h => by cases h) dd_V_isOfPages_18
  · have hF := jv_f c_3 hF
    refine lv_iload_n hx hb dd_V_isOfPages_6 rfl (lv_at hl 0 rfl) ?_
    obtain ⟨o_7, ho_7, hF⟩ := jv_bi hF
    refine jv_ci (va_runS (As := [.int x0]) (rest := []) ⟨hx, hb, hml, hown, ht⟩ (c_V_isPlain l dC dI cI cL cC cZ s.heap.size x0 _ ho_7) (va_cwS 1 ht (gi_S tw_1_88 tw_1_89 tw_1_1 tw_1_90) rfl rfl rfl (by decide +kernel) ⟨Nat.le_of_ble_eq_true rfl, Nat.le_of_ble_eq_true rfl⟩) (jv_ps hK hP hD [] rfl (by decide) rfl) rfl rfl hl.1 rfl (lv_room (Nat.le_of_ble_eq_true rfl)) dd_V_isOfPages_7 ⟨Nat.le_of_ble_eq_true rfl, Nat.le_of_ble_eq_true rfl⟩) ?_
    refine lv_if_eq (tgt := 17) hx hb dd_V_isOfPages_10 (by decide) (fun c_4 => ?_) (fun c_4 => ?_)
    · have hF := jv_t c_4 hF
      refine lv_iconst (v := 0) hx hb dd_V_isOfPages_17 (by decide) ?_
      subst hQ
      exact W.zret (v := 0) hx hb hr rfl (fun t ht hW => ⟨0, rfl, (Option.some.inj hF), ht⟩) (fun _ h => by cases h) dd_V_isOfPages_18
    · have hF := jv_f c_4 hF
      refine lv_iconst (v := 1) hx hb dd_V_isOfPages_13 (by decide) ?_
      refine lv_goto (tgt := 18) hx hb dd_V_isOfPages_14 (by decide) ?_
      subst hQ
      exact W.zret (v := 1) hx hb hr rfl (fun t ht hW => ⟨1, rfl, (Option.some.inj hF), ht⟩) (fun _ h => by cases h) dd_V_isOfPages_18
set_option maxHeartbeats 40000000 in
set_option maxRecDepth 100000 in
theorem c_V_letter (l : Launch) (dC : Nat → ClassId) (dI : Nat → Nat → Nat) (cI cL cC cZ : ClassId) (h0 h1 h2 h3 h4 h5 h6 h7 h8 h9 h10 h11 h12 : Nat) (sz : Nat) (bn : Int64) (zp : Int32) (ch : Nat → Int32) (ct : Int32) (lo : Int32) (oc : Int32) (kd : Nat → Int32) (dp : Nat → Int32) (su : Nat → Int32) (nm : Nat → Int64) (ct2 : Int32) (lo2 : Int32) (oc2 : Int32) (kd2 : Nat → Int32) (dp2 : Nat → Int32) (su2 : Nat → Int32) (nm2 : Nat → Int64) (x1 : Int32) (out : Int32 × Int64) (hF : fn_V_letter bn x1 = some out) : Met l yy_V_letter ws_V_letter { frames := 2, cells := 0, slots := 0, locals := 44 } (mP_ (dC, dI) (tk_ cI cL cC cZ) [(h0, .inr (5, [.ref h1, .ref h3, .ref h8, .long bn])), (h1, .inr (1, [.ref h2, .int zp])), (h2, .inl (cC, 3000, .inl ch)), (h3, .inr (0, [.ref h4, .ref h5, .ref h6, .ref h7, .int ct, .int lo, .int oc])), (h4, .inl (cI, 24, .inl kd)), (h5, .inl (cI, 24, .inl dp)), (h6, .inl (cI, 24, .inl su)), (h7, .inl (cL, 24, .inr (.inl nm))), (h8, .inr (0, [.ref h9, .ref h10, .ref h11, .ref h12, .int ct2, .int lo2, .int oc2])), (h9, .inl (cI, 24, .inl kd2)), (h10, .inl (cI, 24, .inl dp2)), (h11, .inl (cI, 24, .inl su2)), (h12, .inl (cL, 24, .inr (.inl nm2)))] sz [.ref h0, .int x1]) (va_Qi (fun r (_ : Unit) => r = out.1) (mB_ (dC, dI) (tk_ cI cL cC cZ) [(h0, .inr (5, [.ref h1, .ref h3, .ref h8, .long out.2])), (h1, .inr (1, [.ref h2, .int zp])), (h2, .inl (cC, 3000, .inl ch)), (h3, .inr (0, [.ref h4, .ref h5, .ref h6, .ref h7, .int ct, .int lo, .int oc])), (h4, .inl (cI, 24, .inl kd)), (h5, .inl (cI, 24, .inl dp)), (h6, .inl (cI, 24, .inl su)), (h7, .inl (cL, 24, .inr (.inl nm))), (h8, .inr (0, [.ref h9, .ref h10, .ref h11, .ref h12, .int ct2, .int lo2, .int oc2])), (h9, .inl (cI, 24, .inl kd2)), (h10, .inl (cI, 24, .inl dp2)), (h11, .inl (cI, 24, .inl su2)), (h12, .inl (cL, 24, .inr (.inl nm2)))] (va_A [(h0, .inr (5, [.ref h1, .ref h3, .ref h8, .long bn])), (h1, .inr (1, [.ref h2, .int zp])), (h2, .inl (cC, 3000, .inl ch)), (h3, .inr (0, [.ref h4, .ref h5, .ref h6, .ref h7, .int ct, .int lo, .int oc])), (h4, .inl (cI, 24, .inl kd)), (h5, .inl (cI, 24, .inl dp)), (h6, .inl (cI, 24, .inl su)), (h7, .inl (cL, 24, .inr (.inl nm))), (h8, .inr (0, [.ref h9, .ref h10, .ref h11, .ref h12, .int ct2, .int lo2, .int oc2])), (h9, .inl (cI, 24, .inl kd2)), (h10, .inl (cI, 24, .inl dp2)), (h11, .inl (cI, 24, .inl su2)), (h12, .inl (cL, 24, .inr (.inl nm2)))] sz)) (va_A [(h0, .inr (5, [.ref h1, .ref h3, .ref h8, .long bn])), (h1, .inr (1, [.ref h2, .int zp])), (h2, .inl (cC, 3000, .inl ch)), (h3, .inr (0, [.ref h4, .ref h5, .ref h6, .ref h7, .int ct, .int lo, .int oc])), (h4, .inl (cI, 24, .inl kd)), (h5, .inl (cI, 24, .inl dp)), (h6, .inl (cI, 24, .inl su)), (h7, .inl (cL, 24, .inr (.inl nm))), (h8, .inr (0, [.ref h9, .ref h10, .ref h11, .ref h12, .int ct2, .int lo2, .int oc2])), (h9, .inl (cI, 24, .inl kd2)), (h10, .inl (cI, 24, .inl dp2)), (h11, .inl (cI, 24, .inl su2)), (h12, .inl (cL, 24, .inr (.inl nm2)))] sz)) 0 0 (va_A [(h0, .inr (5, [.ref h1, .ref h3, .ref h8, .long bn])), (h1, .inr (1, [.ref h2, .int zp])), (h2, .inl (cC, 3000, .inl ch)), (h3, .inr (0, [.ref h4, .ref h5, .ref h6, .ref h7, .int ct, .int lo, .int oc])), (h4, .inl (cI, 24, .inl kd)), (h5, .inl (cI, 24, .inl dp)), (h6, .inl (cI, 24, .inl su)), (h7, .inl (cL, 24, .inr (.inl nm))), (h8, .inr (0, [.ref h9, .ref h10, .ref h11, .ref h12, .int ct2, .int lo2, .int oc2])), (h9, .inl (cI, 24, .inl kd2)), (h10, .inl (cI, 24, .inl dp2)), (h11, .inl (cI, 24, .inl su2)), (h12, .inl (cL, 24, .inr (.inl nm2)))] sz) := by
  refine Met.ofW (cc := cc_V_letter) (maxL := 3) (ret := (some .boolean)) (by decide) rfl ?_
  intro p e s m args below meth c s₁ B hml hv
  obtain ⟨hargs, hsz, hP, hK, hD0⟩ := hv
  have hx := B.exec
  have hb := B.bytes
  have hr := B.returns
  have hts := atoms_spec (ws := ws_V_letter) B.pre
  have ht : ∀ w ∈ TB_, w.before args s = true := fun w h => hts w (List.mem_cons_of_mem _ h)
  have hown : s.vm.findClass cn_V = some m.cls := findClass_of_methodNamed B.named
  have hlocks := B.notSynchronized
  subst hsz
  have hD := hD0.self (sz := s.heap.size)
  generalize hAe : va_A [(h0, .inr (5, [.ref h1, .ref h3, .ref h8, .long bn])), (h1, .inr (1, [.ref h2, .int zp])), (h2, .inl (cC, 3000, .inl ch)), (h3, .inr (0, [.ref h4, .ref h5, .ref h6, .ref h7, .int ct, .int lo, .int oc])), (h4, .inl (cI, 24, .inl kd)), (h5, .inl (cI, 24, .inl dp)), (h6, .inl (cI, 24, .inl su)), (h7, .inl (cL, 24, .inr (.inl nm))), (h8, .inr (0, [.ref h9, .ref h10, .ref h11, .ref h12, .int ct2, .int lo2, .int oc2])), (h9, .inl (cI, 24, .inl kd2)), (h10, .inl (cI, 24, .inl dp2)), (h11, .inl (cI, 24, .inl su2)), (h12, .inl (cL, 24, .inr (.inl nm2)))] s.heap.size = A at hD ⊢
  have hA : ∀ q : Nat, s.heap.size ≤ q → A q := fun q h => by rw [← hAe]; exact Or.inr h
  have hS : va_S A s.heap s.heap [] := va_S.rf
  have hP : va_P (dC, dI) vwCl [(h0, .inr (5, [.ref h1, .ref h3, .ref h8, .long bn])), (h1, .inr (1, [.ref h2, .int zp])), (h2, .inl (cC, 3000, .inl ch)), (h3, .inr (0, [.ref h4, .ref h5, .ref h6, .ref h7, .int ct, .int lo, .int oc])), (h4, .inl (cI, 24, .inl kd)), (h5, .inl (cI, 24, .inl dp)), (h6, .inl (cI, 24, .inl su)), (h7, .inl (cL, 24, .inr (.inl nm))), (h8, .inr (0, [.ref h9, .ref h10, .ref h11, .ref h12, .int ct2, .int lo2, .int oc2])), (h9, .inl (cI, 24, .inl kd2)), (h10, .inl (cI, 24, .inl dp2)), (h11, .inl (cI, 24, .inl su2)), (h12, .inl (cL, 24, .inr (.inl nm2)))] s.heap := hP
  have hl := lv_entry [.ref h0, .int x1] (n := 3) (Nat.le_of_ble_eq_true rfl)
  have he : entryFrame m args 3 = _ := (congrArg (fun a => entryFrame m a 3) hargs).trans (lg_entry_eq m [.ref h0, .int x1] 3)
  rw [he]
  generalize (lg_sl [.ref h0, .int x1] ++ List.replicate (3 - (lg_sl [.ref h0, .int x1]).length) Slot.unset).toArray = ls at hl ⊢
  have hl : lv_has ls 3 [(0, .ref h0), (1, .int x1)] := hl
  generalize hQ : MQ below _ args s _ _ _ = Q
  unfold fn_V_letter at hF
  refine lv_aload_n hx hb dd_V_letter_0 rfl (lv_at hl 0 rfl) ?_
  refine va_get (D := (dC, dI)) (ci := 5) (v := .long bn) (C := cn_V) (T := tt_V) (N := 4) hx hb ht in_V hown hK hP 0 rfl rfl 3 (by decide) (ht _ tw_1_68) (fun _ h9 => h9) rfl dd_V_letter_1 ?_
  obtain ⟨o_4, ho_4, hF⟩ := jv_bi hF
  refine jv_ci (va_runS (As := [.long bn]) (rest := []) ⟨hx, hb, hml, hown, ht⟩ (c_N_sizeOf l dC dI cI cL cC cZ s.heap.size bn _ ho_4) (va_cwS 1 ht (gi_S tw_1_82 tw_1_83 tw_1_5 tw_1_84) rfl rfl rfl (by decide +kernel) ⟨Nat.le_of_ble_eq_true rfl, Nat.le_of_ble_eq_true rfl⟩) (jv_ps hK hP hD [] rfl (by decide) rfl) rfl rfl hl.1 rfl (lv_room (Nat.le_of_ble_eq_true rfl)) dd_V_letter_4 ⟨Nat.le_of_ble_eq_true rfl, Nat.le_of_ble_eq_true rfl⟩) ?_
  refine lv_istore_n (lv' := [(2, .int o_4), (0, .ref h0), (1, .int x1)]) hx hb dd_V_letter_7 rfl hl (by decide) rfl (fun ls hl => ?_)
  refine lv_iload_n hx hb dd_V_letter_8 rfl (lv_at hl 2 rfl) ?_
  obtain ⟨o_9, ho_9, hF⟩ := jv_bi hF
  refine jv_ci (va_runS (As := [.int x1]) (rest := []) ⟨hx, hb, hml, hown, ht⟩ (c_V_isPlain l dC dI cI cL cC cZ s.heap.size x1 _ ho_9) (va_cwS 1 ht (gi_S tw_1_88 tw_1_89 tw_1_1 tw_1_90) rfl rfl rfl (by decide +kernel) ⟨Nat.le_of_ble_eq_true rfl, Nat.le_of_ble_eq_true rfl⟩) (jv_ps hK hP hD [] rfl (by decide) rfl) rfl rfl hl.1 rfl (lv_room (Nat.le_of_ble_eq_true rfl)) dd_V_letter_9 ⟨Nat.le_of_ble_eq_true rfl, Nat.le_of_ble_eq_true rfl⟩) ?_
  refine lv_if_eq (tgt := 21) hx hb dd_V_letter_12 (by decide) (fun c_5 => ?_) (fun c_5 => ?_)
  · have hF := jv_t c_5 hF
    refine lv_iconst (v := 0) hx hb dd_V_letter_21 (by decide) ?_
    subst hQ
    obtain rfl := Option.some.inj hF
    exact W.zret (v := 0) hx hb hr rfl (fun t ht hW => ⟨⟨0, (), rfl, rfl, by rw [ht]; exact hP, va_K.moved hW.alike hK, hD⟩, hS.F ht⟩) hS.2.2 dd_V_letter_22
  · have hF := jv_f c_5 hF
    refine lv_iload_n hx hb dd_V_letter_15 rfl (lv_at hl 0 rfl) ?_
    refine lv_bipush (v := 6) hx hb dd_V_letter_16 (by decide) ?_
    refine lv_icmp_lt (tgt := 23) hx hb dd_V_letter_18 (by decide) (fun c_6 => ?_) (fun c_6 => ?_)
    · have hF := jv_t c_6 hF
      refine lv_aload_n hx hb dd_V_letter_23 rfl (lv_at hl 1 rfl) ?_
      refine lv_aload_n hx hb dd_V_letter_24 rfl (lv_at hl 1 rfl) ?_
      refine va_get (D := (dC, dI)) (ci := 5) (v := .long bn) (C := cn_V) (T := tt_V) (N := 4) hx hb ht in_V hown hK hP 0 rfl rfl 3 (by decide) (ht _ tw_1_68) (fun _ h9 => h9) rfl dd_V_letter_25 ?_
      refine lv_iload_n hx hb dd_V_letter_28 rfl (lv_at hl 0 rfl) ?_
      refine lv_iload_n hx hb dd_V_letter_29 rfl (lv_at hl 2 rfl) ?_
      obtain ⟨o_30, ho_30, hF⟩ := jv_bi hF
      refine jv_cl (va_runS (As := [.long bn, .int o_4, .int x1]) (rest := [.ref h0]) ⟨hx, hb, hml, hown, ht⟩ (c_N_withLetter l dC dI cI cL cC cZ s.heap.size bn o_4 x1 _ ho_30) (va_cwS 3 ht (gi_S tw_1_91 tw_1_92 tw_1_5 tw_1_93) rfl rfl rfl (by decide +kernel) ⟨Nat.le_of_ble_eq_true rfl, Nat.le_of_ble_eq_true rfl⟩) (jv_ps hK hP hD [] rfl (by decide) rfl) rfl rfl hl.1 rfl (lv_room (Nat.le_of_ble_eq_true rfl)) dd_V_letter_30 ⟨Nat.le_of_ble_eq_true rfl, Nat.le_of_ble_eq_true rfl⟩) ?_
      refine va_put (D := (dC, dI)) (ci := 5) (v := .long o_30) (ty := .long) (C := cn_V) (T := tt_V) (N := 4) hx hb ht in_V ty_V tyok_V nm_V hown hK hP hD hS 0 rfl rfl 3 (by decide) (ht _ tw_1_68) (fun _ h9 => h9) rfl (by decide +kernel) rfl rfl (Nat.le_of_ble_eq_true rfl) dd_V_letter_33 (fun H_7 locs_8 hP hD hS => ?_)
      have hP : va_P (dC, dI) vwCl [(h0, .inr (5, [.ref h1, .ref h3, .ref h8, .long o_30])), (h1, .inr (1, [.ref h2, .int zp])), (h2, .inl (cC, 3000, .inl ch)), (h3, .inr (0, [.ref h4, .ref h5, .ref h6, .ref h7, .int ct, .int lo, .int oc])), (h4, .inl (cI, 24, .inl kd)), (h5, .inl (cI, 24, .inl dp)), (h6, .inl (cI, 24, .inl su)), (h7, .inl (cL, 24, .inr (.inl nm))), (h8, .inr (0, [.ref h9, .ref h10, .ref h11, .ref h12, .int ct2, .int lo2, .int oc2])), (h9, .inl (cI, 24, .inl kd2)), (h10, .inl (cI, 24, .inl dp2)), (h11, .inl (cI, 24, .inl su2)), (h12, .inl (cL, 24, .inr (.inl nm2)))] H_7 := hP
      have hD : va_D A [(h0, .inr (5, [.ref h1, .ref h3, .ref h8, .long o_30])), (h1, .inr (1, [.ref h2, .int zp])), (h2, .inl (cC, 3000, .inl ch)), (h3, .inr (0, [.ref h4, .ref h5, .ref h6, .ref h7, .int ct, .int lo, .int oc])), (h4, .inl (cI, 24, .inl kd)), (h5, .inl (cI, 24, .inl dp)), (h6, .inl (cI, 24, .inl su)), (h7, .inl (cL, 24, .inr (.inl nm))), (h8, .inr (0, [.ref h9, .ref h10, .ref h11, .ref h12, .int ct2, .int lo2, .int oc2])), (h9, .inl (cI, 24, .inl kd2)), (h10, .inl (cI, 24, .inl dp2)), (h11, .inl (cI, 24, .inl su2)), (h12, .inl (cL, 24, .inr (.inl nm2)))] := hD
      refine lv_iconst (v := 1) hx hb dd_V_letter_36 (by decide) ?_
      subst hQ
      obtain rfl := Option.some.inj hF
      exact W.zret (v := 1) hx hb hr rfl (fun t ht hW => ⟨⟨1, (), rfl, rfl, by rw [ht]; exact hP, va_K.moved hW.alike hK, hD⟩, hS.F ht⟩) hS.2.2 dd_V_letter_37
    · have hF := jv_f c_6 hF
      refine lv_iconst (v := 0) hx hb dd_V_letter_21 (by decide) ?_
      subst hQ
      obtain rfl := Option.some.inj hF
      exact W.zret (v := 0) hx hb hr rfl (fun t ht hW => ⟨⟨0, (), rfl, rfl, by rw [ht]; exact hP, va_K.moved hW.alike hK, hD⟩, hS.F ht⟩) hS.2.2 dd_V_letter_22
set_option maxHeartbeats 40000000 in
set_option maxRecDepth 100000 in
theorem c_V_open (l : Launch) (dC : Nat → ClassId) (dI : Nat → Nat → Nat) (cI cL cC cZ : ClassId) (h0 h1 h2 h3 h4 h5 h6 h7 h8 h9 h10 h11 h12 : Nat) (sz : Nat) (bn : Int64) (zp : Int32) (ch : Nat → Int32) (ct : Int32) (lo : Int32) (oc : Int32) (kd : Nat → Int32) (dp : Nat → Int32) (su : Nat → Int32) (nm : Nat → Int64) (ct2 : Int32) (lo2 : Int32) (oc2 : Int32) (kd2 : Nat → Int32) (dp2 : Nat → Int32) (su2 : Nat → Int32) (nm2 : Nat → Int64)  (out : Int32 × Int64 × Int32 × Int32 × Int32 × (Nat → Int32) × (Nat → Int32) × (Nat → Int32) × (Nat → Int64)) (hF : fn_V_open bn ct lo oc kd dp su nm = some out) : Met l yy_V_open ws_V_open { frames := 2, cells := 0, slots := 0, locals := 46 } (mP_ (dC, dI) (tk_ cI cL cC cZ) [(h0, .inr (5, [.ref h1, .ref h3, .ref h8, .long bn])), (h1, .inr (1, [.ref h2, .int zp])), (h2, .inl (cC, 3000, .inl ch)), (h3, .inr (0, [.ref h4, .ref h5, .ref h6, .ref h7, .int ct, .int lo, .int oc])), (h4, .inl (cI, 24, .inl kd)), (h5, .inl (cI, 24, .inl dp)), (h6, .inl (cI, 24, .inl su)), (h7, .inl (cL, 24, .inr (.inl nm))), (h8, .inr (0, [.ref h9, .ref h10, .ref h11, .ref h12, .int ct2, .int lo2, .int oc2])), (h9, .inl (cI, 24, .inl kd2)), (h10, .inl (cI, 24, .inl dp2)), (h11, .inl (cI, 24, .inl su2)), (h12, .inl (cL, 24, .inr (.inl nm2)))] sz [.ref h0]) (va_Qi (fun r (_ : Unit) => r = out.1) (mB_ (dC, dI) (tk_ cI cL cC cZ) [(h0, .inr (5, [.ref h1, .ref h3, .ref h8, .long out.2.1])), (h1, .inr (1, [.ref h2, .int zp])), (h2, .inl (cC, 3000, .inl ch)), (h3, .inr (0, [.ref h4, .ref h5, .ref h6, .ref h7, .int out.2.2.1, .int out.2.2.2.1, .int out.2.2.2.2.1])), (h4, .inl (cI, 24, .inl out.2.2.2.2.2.1)), (h5, .inl (cI, 24, .inl out.2.2.2.2.2.2.1)), (h6, .inl (cI, 24, .inl out.2.2.2.2.2.2.2.1)), (h7, .inl (cL, 24, .inr (.inl out.2.2.2.2.2.2.2.2))), (h8, .inr (0, [.ref h9, .ref h10, .ref h11, .ref h12, .int ct2, .int lo2, .int oc2])), (h9, .inl (cI, 24, .inl kd2)), (h10, .inl (cI, 24, .inl dp2)), (h11, .inl (cI, 24, .inl su2)), (h12, .inl (cL, 24, .inr (.inl nm2)))] (va_A [(h0, .inr (5, [.ref h1, .ref h3, .ref h8, .long bn])), (h1, .inr (1, [.ref h2, .int zp])), (h2, .inl (cC, 3000, .inl ch)), (h3, .inr (0, [.ref h4, .ref h5, .ref h6, .ref h7, .int ct, .int lo, .int oc])), (h4, .inl (cI, 24, .inl kd)), (h5, .inl (cI, 24, .inl dp)), (h6, .inl (cI, 24, .inl su)), (h7, .inl (cL, 24, .inr (.inl nm))), (h8, .inr (0, [.ref h9, .ref h10, .ref h11, .ref h12, .int ct2, .int lo2, .int oc2])), (h9, .inl (cI, 24, .inl kd2)), (h10, .inl (cI, 24, .inl dp2)), (h11, .inl (cI, 24, .inl su2)), (h12, .inl (cL, 24, .inr (.inl nm2)))] sz)) (va_A [(h0, .inr (5, [.ref h1, .ref h3, .ref h8, .long bn])), (h1, .inr (1, [.ref h2, .int zp])), (h2, .inl (cC, 3000, .inl ch)), (h3, .inr (0, [.ref h4, .ref h5, .ref h6, .ref h7, .int ct, .int lo, .int oc])), (h4, .inl (cI, 24, .inl kd)), (h5, .inl (cI, 24, .inl dp)), (h6, .inl (cI, 24, .inl su)), (h7, .inl (cL, 24, .inr (.inl nm))), (h8, .inr (0, [.ref h9, .ref h10, .ref h11, .ref h12, .int ct2, .int lo2, .int oc2])), (h9, .inl (cI, 24, .inl kd2)), (h10, .inl (cI, 24, .inl dp2)), (h11, .inl (cI, 24, .inl su2)), (h12, .inl (cL, 24, .inr (.inl nm2)))] sz)) 0 0 (va_A [(h0, .inr (5, [.ref h1, .ref h3, .ref h8, .long bn])), (h1, .inr (1, [.ref h2, .int zp])), (h2, .inl (cC, 3000, .inl ch)), (h3, .inr (0, [.ref h4, .ref h5, .ref h6, .ref h7, .int ct, .int lo, .int oc])), (h4, .inl (cI, 24, .inl kd)), (h5, .inl (cI, 24, .inl dp)), (h6, .inl (cI, 24, .inl su)), (h7, .inl (cL, 24, .inr (.inl nm))), (h8, .inr (0, [.ref h9, .ref h10, .ref h11, .ref h12, .int ct2, .int lo2, .int oc2])), (h9, .inl (cI, 24, .inl kd2)), (h10, .inl (cI, 24, .inl dp2)), (h11, .inl (cI, 24, .inl su2)), (h12, .inl (cL, 24, .inr (.inl nm2)))] sz) := by
  refine Met.ofW (cc := cc_V_open) (maxL := 1) (ret := (some .int)) (by decide) rfl ?_
  intro p e s m args below meth c s₁ B hml hv
  obtain ⟨hargs, hsz, hP, hK, hD0⟩ := hv
  have hx := B.exec
  have hb := B.bytes
  have hr := B.returns
  have hts := atoms_spec (ws := ws_V_open) B.pre
  have ht : ∀ w ∈ TB_, w.before args s = true := fun w h => hts w (List.mem_cons_of_mem _ h)
  have hown : s.vm.findClass cn_V = some m.cls := findClass_of_methodNamed B.named
  have hlocks := B.notSynchronized
  subst hsz
  have hD := hD0.self (sz := s.heap.size)
  generalize hAe : va_A [(h0, .inr (5, [.ref h1, .ref h3, .ref h8, .long bn])), (h1, .inr (1, [.ref h2, .int zp])), (h2, .inl (cC, 3000, .inl ch)), (h3, .inr (0, [.ref h4, .ref h5, .ref h6, .ref h7, .int ct, .int lo, .int oc])), (h4, .inl (cI, 24, .inl kd)), (h5, .inl (cI, 24, .inl dp)), (h6, .inl (cI, 24, .inl su)), (h7, .inl (cL, 24, .inr (.inl nm))), (h8, .inr (0, [.ref h9, .ref h10, .ref h11, .ref h12, .int ct2, .int lo2, .int oc2])), (h9, .inl (cI, 24, .inl kd2)), (h10, .inl (cI, 24, .inl dp2)), (h11, .inl (cI, 24, .inl su2)), (h12, .inl (cL, 24, .inr (.inl nm2)))] s.heap.size = A at hD ⊢
  have hA : ∀ q : Nat, s.heap.size ≤ q → A q := fun q h => by rw [← hAe]; exact Or.inr h
  have hS : va_S A s.heap s.heap [] := va_S.rf
  have hP : va_P (dC, dI) vwCl [(h0, .inr (5, [.ref h1, .ref h3, .ref h8, .long bn])), (h1, .inr (1, [.ref h2, .int zp])), (h2, .inl (cC, 3000, .inl ch)), (h3, .inr (0, [.ref h4, .ref h5, .ref h6, .ref h7, .int ct, .int lo, .int oc])), (h4, .inl (cI, 24, .inl kd)), (h5, .inl (cI, 24, .inl dp)), (h6, .inl (cI, 24, .inl su)), (h7, .inl (cL, 24, .inr (.inl nm))), (h8, .inr (0, [.ref h9, .ref h10, .ref h11, .ref h12, .int ct2, .int lo2, .int oc2])), (h9, .inl (cI, 24, .inl kd2)), (h10, .inl (cI, 24, .inl dp2)), (h11, .inl (cI, 24, .inl su2)), (h12, .inl (cL, 24, .inr (.inl nm2)))] s.heap := hP
  have hl := lv_entry [.ref h0] (n := 1) (Nat.le_of_ble_eq_true rfl)
  have he : entryFrame m args 1 = _ := (congrArg (fun a => entryFrame m a 1) hargs).trans (lg_entry_eq m [.ref h0] 1)
  rw [he]
  generalize (lg_sl [.ref h0] ++ List.replicate (1 - (lg_sl [.ref h0]).length) Slot.unset).toArray = ls at hl ⊢
  have hl : lv_has ls 1 [(0, .ref h0)] := hl
  generalize hQ : MQ below _ args s _ _ _ = Q
  unfold fn_V_open at hF
  refine lv_aload_n hx hb dd_V_open_0 rfl (lv_at hl 0 rfl) ?_
  refine lv_bipush (v := 6) hx hb dd_V_open_1 (by decide) ?_
  obtain ⟨o_3, ho_3, hF⟩ := jv_bi hF
  refine jv_mi (wr := []) (w1 := [(h0, .inr (5, [.ref h1, .ref h3, .ref h8, .long o_3.2.1])), (h1, .inr (1, [.ref h2, .int zp])), (h2, .inl (cC, 3000, .inl ch)), (h3, .inr (0, [.ref h4, .ref h5, .ref h6, .ref h7, .int o_3.2.2.1, .int o_3.2.2.2.1, .int o_3.2.2.2.2.1])), (h4, .inl (cI, 24, .inl o_3.2.2.2.2.2.1)), (h5, .inl (cI, 24, .inl o_3.2.2.2.2.2.2.1)), (h6, .inl (cI, 24, .inl o_3.2.2.2.2.2.2.2.1)), (h7, .inl (cL, 24, .inr (.inl o_3.2.2.2.2.2.2.2.2))), (h8, .inr (0, [.ref h9, .ref h10, .ref h11, .ref h12, .int ct2, .int lo2, .int oc2])), (h9, .inl (cI, 24, .inl kd2)), (h10, .inl (cI, 24, .inl dp2)), (h11, .inl (cI, 24, .inl su2)), (h12, .inl (cL, 24, .inr (.inl nm2)))]) (va_runV (C := cn_V) (As := [.int 6]) (rest := []) ⟨hx, hb, hml, hown, ht⟩ (c_V_addWithBegunName l dC dI cI cL cC cZ h0 h1 h2 h3 h4 h5 h6 h7 h8 h9 h10 h11 h12 s.heap.size bn zp ch ct lo oc kd dp su nm ct2 lo2 oc2 kd2 dp2 su2 nm2 6 _ ho_3) (cwV 1 ht (gi_V tw_1_98 tw_1_100 tw_p_0 tw_1_1 tw_1_101) rfl rfl rfl (by decide +kernel) ⟨Nat.le_of_ble_eq_true rfl, Nat.le_of_ble_eq_true rfl⟩) (jv_pv hK hP hD [0, 1, 2, 3, 4, 5, 6, 7, 8, 9, 10, 11, 12] rfl (by decide) rfl (va_recv hK hP (ci := 5) (q0 := 0) rfl rfl)) rfl rfl hl.1 rfl (lv_room (Nat.le_of_ble_eq_true rfl)) dd_V_open_3 ⟨Nat.le_of_ble_eq_true rfl, Nat.le_of_ble_eq_true rfl⟩) hP hD hS hA [0, 1, 2, 3, 4, 5, 6, 7, 8, 9, 10, 11, 12] [] rfl rfl (by decide) (by decide) (fun H_3 locs_4 hP hD hS => ?_)
  have hP : va_P (dC, dI) vwCl [(h0, .inr (5, [.ref h1, .ref h3, .ref h8, .long o_3.2.1])), (h1, .inr (1, [.ref h2, .int zp])), (h2, .inl (cC, 3000, .inl ch)), (h3, .inr (0, [.ref h4, .ref h5, .ref h6, .ref h7, .int o_3.2.2.1, .int o_3.2.2.2.1, .int o_3.2.2.2.2.1])), (h4, .inl (cI, 24, .inl o_3.2.2.2.2.2.1)), (h5, .inl (cI, 24, .inl o_3.2.2.2.2.2.2.1)), (h6, .inl (cI, 24, .inl o_3.2.2.2.2.2.2.2.1)), (h7, .inl (cL, 24, .inr (.inl o_3.2.2.2.2.2.2.2.2))), (h8, .inr (0, [.ref h9, .ref h10, .ref h11, .ref h12, .int ct2, .int lo2, .int oc2])), (h9, .inl (cI, 24, .inl kd2)), (h10, .inl (cI, 24, .inl dp2)), (h11, .inl (cI, 24, .inl su2)), (h12, .inl (cL, 24, .inr (.inl nm2)))] H_3 := hP.sub [0, 1, 2, 3, 4, 5, 6, 7, 8, 9, 10, 11, 12] rfl
  have hD : va_D A [(h0, .inr (5, [.ref h1, .ref h3, .ref h8, .long o_3.2.1])), (h1, .inr (1, [.ref h2, .int zp])), (h2, .inl (cC, 3000, .inl ch)), (h3, .inr (0, [.ref h4, .ref h5, .ref h6, .ref h7, .int o_3.2.2.1, .int o_3.2.2.2.1, .int o_3.2.2.2.2.1])), (h4, .inl (cI, 24, .inl o_3.2.2.2.2.2.1)), (h5, .inl (cI, 24, .inl o_3.2.2.2.2.2.2.1)), (h6, .inl (cI, 24, .inl o_3.2.2.2.2.2.2.2.1)), (h7, .inl (cL, 24, .inr (.inl o_3.2.2.2.2.2.2.2.2))), (h8, .inr (0, [.ref h9, .ref h10, .ref h11, .ref h12, .int ct2, .int lo2, .int oc2])), (h9, .inl (cI, 24, .inl kd2)), (h10, .inl (cI, 24, .inl dp2)), (h11, .inl (cI, 24, .inl su2)), (h12, .inl (cL, 24, .inr (.inl nm2)))] := hD.sub [0, 1, 2, 3, 4, 5, 6, 7, 8, 9, 10, 11, 12] (by decide) rfl
  subst hQ
  obtain rfl := Option.some.inj hF
  exact W.iret (v := o_3.1) hx hb hr (fun t ht hW => ⟨⟨o_3.1, (), rfl, rfl, by rw [ht]; exact hP, va_K.moved hW.alike hK, hD⟩, hS.F ht⟩) hS.2.2 dd_V_open_6
set_option maxHeartbeats 40000000 in
set_option maxRecDepth 100000 in
theorem c_V_close (l : Launch) (dC : Nat → ClassId) (dI : Nat → Nat → Nat) (cI cL cC cZ : ClassId) (h0 h1 h2 h3 h4 h5 h6 h7 h8 h9 h10 h11 h12 : Nat) (sz : Nat) (bn : Int64) (zp : Int32) (ch : Nat → Int32) (ct : Int32) (lo : Int32) (oc : Int32) (kd : Nat → Int32) (dp : Nat → Int32) (su : Nat → Int32) (nm : Nat → Int64) (ct2 : Int32) (lo2 : Int32) (oc2 : Int32) (kd2 : Nat → Int32) (dp2 : Nat → Int32) (su2 : Nat → Int32) (nm2 : Nat → Int64)  (out : Int32 × Int32 × Int32 × (Nat → Int32)) (hF : fn_V_close ct su lo oc kd = some out) : Met l yy_V_close ws_V_close { frames := 2, cells := 0, slots := 0, locals := 42 } (mP_ (dC, dI) (tk_ cI cL cC cZ) [(h0, .inr (5, [.ref h1, .ref h3, .ref h8, .long bn])), (h1, .inr (1, [.ref h2, .int zp])), (h2, .inl (cC, 3000, .inl ch)), (h3, .inr (0, [.ref h4, .ref h5, .ref h6, .ref h7, .int ct, .int lo, .int oc])), (h4, .inl (cI, 24, .inl kd)), (h5, .inl (cI, 24, .inl dp)), (h6, .inl (cI, 24, .inl su)), (h7, .inl (cL, 24, .inr (.inl nm))), (h8, .inr (0, [.ref h9, .ref h10, .ref h11, .ref h12, .int ct2, .int lo2, .int oc2])), (h9, .inl (cI, 24, .inl kd2)), (h10, .inl (cI, 24, .inl dp2)), (h11, .inl (cI, 24, .inl su2)), (h12, .inl (cL, 24, .inr (.inl nm2)))] sz [.ref h0]) (va_Qi (fun r (_ : Unit) => r = out.1) (mB_ (dC, dI) (tk_ cI cL cC cZ) [(h0, .inr (5, [.ref h1, .ref h3, .ref h8, .long bn])), (h1, .inr (1, [.ref h2, .int zp])), (h2, .inl (cC, 3000, .inl ch)), (h3, .inr (0, [.ref h4, .ref h5, .ref h6, .ref h7, .int ct, .int out.2.1, .int out.2.2.1])), (h4, .inl (cI, 24, .inl out.2.2.2)), (h5, .inl (cI, 24, .inl dp)), (h6, .inl (cI, 24, .inl su)), (h7, .inl (cL, 24, .inr (.inl nm))), (h8, .inr (0, [.ref h9, .ref h10, .ref h11, .ref h12, .int ct2, .int lo2, .int oc2])), (h9, .inl (cI, 24, .inl kd2)), (h10, .inl (cI, 24, .inl dp2)), (h11, .inl (cI, 24, .inl su2)), (h12, .inl (cL, 24, .inr (.inl nm2)))] (va_A [(h0, .inr (5, [.ref h1, .ref h3, .ref h8, .long bn])), (h1, .inr (1, [.ref h2, .int zp])), (h2, .inl (cC, 3000, .inl ch)), (h3, .inr (0, [.ref h4, .ref h5, .ref h6, .ref h7, .int ct, .int lo, .int oc])), (h4, .inl (cI, 24, .inl kd)), (h5, .inl (cI, 24, .inl dp)), (h6, .inl (cI, 24, .inl su)), (h7, .inl (cL, 24, .inr (.inl nm))), (h8, .inr (0, [.ref h9, .ref h10, .ref h11, .ref h12, .int ct2, .int lo2, .int oc2])), (h9, .inl (cI, 24, .inl kd2)), (h10, .inl (cI, 24, .inl dp2)), (h11, .inl (cI, 24, .inl su2)), (h12, .inl (cL, 24, .inr (.inl nm2)))] sz)) (va_A [(h0, .inr (5, [.ref h1, .ref h3, .ref h8, .long bn])), (h1, .inr (1, [.ref h2, .int zp])), (h2, .inl (cC, 3000, .inl ch)), (h3, .inr (0, [.ref h4, .ref h5, .ref h6, .ref h7, .int ct, .int lo, .int oc])), (h4, .inl (cI, 24, .inl kd)), (h5, .inl (cI, 24, .inl dp)), (h6, .inl (cI, 24, .inl su)), (h7, .inl (cL, 24, .inr (.inl nm))), (h8, .inr (0, [.ref h9, .ref h10, .ref h11, .ref h12, .int ct2, .int lo2, .int oc2])), (h9, .inl (cI, 24, .inl kd2)), (h10, .inl (cI, 24, .inl dp2)), (h11, .inl (cI, 24, .inl su2)), (h12, .inl (cL, 24, .inr (.inl nm2)))] sz)) 0 0 (va_A [(h0, .inr (5, [.ref h1, .ref h3, .ref h8, .long bn])), (h1, .inr (1, [.ref h2, .int zp])), (h2, .inl (cC, 3000, .inl ch)), (h3, .inr (0, [.ref h4, .ref h5, .ref h6, .ref h7, .int ct, .int lo, .int oc])), (h4, .inl (cI, 24, .inl kd)), (h5, .inl (cI, 24, .inl dp)), (h6, .inl (cI, 24, .inl su)), (h7, .inl (cL, 24, .inr (.inl nm))), (h8, .inr (0, [.ref h9, .ref h10, .ref h11, .ref h12, .int ct2, .int lo2, .int oc2])), (h9, .inl (cI, 24, .inl kd2)), (h10, .inl (cI, 24, .inl dp2)), (h11, .inl (cI, 24, .inl su2)), (h12, .inl (cL, 24, .inr (.inl nm2)))] sz) := by
  refine Met.ofW (cc := cc_V_close) (maxL := 1) (ret := (some .boolean)) (by decide) rfl ?_
  intro p e s m args below meth c s₁ B hml hv
  obtain ⟨hargs, hsz, hP, hK, hD0⟩ := hv
  have hx := B.exec
  have hb := B.bytes
  have hr := B.returns
  have hts := atoms_spec (ws := ws_V_close) B.pre
  have ht : ∀ w ∈ TB_, w.before args s = true := fun w h => hts w (List.mem_cons_of_mem _ h)
  have hown : s.vm.findClass cn_V = some m.cls := findClass_of_methodNamed B.named
  have hlocks := B.notSynchronized
  subst hsz
  have hD := hD0.self (sz := s.heap.size)
  generalize hAe : va_A [(h0, .inr (5, [.ref h1, .ref h3, .ref h8, .long bn])), (h1, .inr (1, [.ref h2, .int zp])), (h2, .inl (cC, 3000, .inl ch)), (h3, .inr (0, [.ref h4, .ref h5, .ref h6, .ref h7, .int ct, .int lo, .int oc])), (h4, .inl (cI, 24, .inl kd)), (h5, .inl (cI, 24, .inl dp)), (h6, .inl (cI, 24, .inl su)), (h7, .inl (cL, 24, .inr (.inl nm))), (h8, .inr (0, [.ref h9, .ref h10, .ref h11, .ref h12, .int ct2, .int lo2, .int oc2])), (h9, .inl (cI, 24, .inl kd2)), (h10, .inl (cI, 24, .inl dp2)), (h11, .inl (cI, 24, .inl su2)), (h12, .inl (cL, 24, .inr (.inl nm2)))] s.heap.size = A at hD ⊢
  have hA : ∀ q : Nat, s.heap.size ≤ q → A q := fun q h => by rw [← hAe]; exact Or.inr h
  have hS : va_S A s.heap s.heap [] := va_S.rf
  have hP : va_P (dC, dI) vwCl [(h0, .inr (5, [.ref h1, .ref h3, .ref h8, .long bn])), (h1, .inr (1, [.ref h2, .int zp])), (h2, .inl (cC, 3000, .inl ch)), (h3, .inr (0, [.ref h4, .ref h5, .ref h6, .ref h7, .int ct, .int lo, .int oc])), (h4, .inl (cI, 24, .inl kd)), (h5, .inl (cI, 24, .inl dp)), (h6, .inl (cI, 24, .inl su)), (h7, .inl (cL, 24, .inr (.inl nm))), (h8, .inr (0, [.ref h9, .ref h10, .ref h11, .ref h12, .int ct2, .int lo2, .int oc2])), (h9, .inl (cI, 24, .inl kd2)), (h10, .inl (cI, 24, .inl dp2)), (h11, .inl (cI, 24, .inl su2)), (h12, .inl (cL, 24, .inr (.inl nm2)))] s.heap := hP
  have hl := lv_entry [.ref h0] (n := 1) (Nat.le_of_ble_eq_true rfl)
  have he : entryFrame m args 1 = _ := (congrArg (fun a => entryFrame m a 1) hargs).trans (lg_entry_eq m [.ref h0] 1)
  rw [he]
  generalize (lg_sl [.ref h0] ++ List.replicate (1 - (lg_sl [.ref h0]).length) Slot.unset).toArray = ls at hl ⊢
  have hl : lv_has ls 1 [(0, .ref h0)] := hl
  generalize hQ : MQ below _ args s _ _ _ = Q
  unfold fn_V_close at hF
  refine lv_aload_n hx hb dd_V_close_0 rfl (lv_at hl 0 rfl) ?_
  refine va_get (D := (dC, dI)) (ci := 5) (v := .ref h3) (C := cn_V) (T := tt_V) (N := 4) hx hb ht in_V hown hK hP 0 rfl rfl 1 (by decide) (ht _ tw_1_66) (fun _ h9 => h9) rfl dd_V_close_1 ?_
  obtain ⟨o_4, ho_4, hF⟩ := jv_bi hF
  refine jv_mi (wr := [(h0, .inr (5, [.ref h1, .ref h3, .ref h8, .long bn])), (h1, .inr (1, [.ref h2, .int zp])), (h2, .inl (cC, 3000, .inl ch)), (h8, .inr (0, [.ref h9, .ref h10, .ref h11, .ref h12, .int ct2, .int lo2, .int oc2])), (h9, .inl (cI, 24, .inl kd2)), (h10, .inl (cI, 24, .inl dp2)), (h11, .inl (cI, 24, .inl su2)), (h12, .inl (cL, 24, .inr (.inl nm2)))]) (w1 := [(h3, .inr (0, [.ref h4, .ref h5, .ref h6, .ref h7, .int ct, .int o_4.2.1, .int o_4.2.2.1])), (h4, .inl (cI, 24, .inl o_4.2.2.2)), (h5, .inl (cI, 24, .inl dp)), (h6, .inl (cI, 24, .inl su)), (h7, .inl (cL, 24, .inr (.inl nm)))]) (va_runV (C := cn_R) (As := []) (rest := []) ⟨hx, hb, hml, hown, ht⟩ (c_R_closeLastOpen l dC dI cI cL cC cZ h3 h4 h5 h6 h7 s.heap.size ct lo oc kd dp su nm _ ho_4) (cwV 0 ht (gi_V tw_1_110 tw_1_111 tw_1_112 tw_1_3 tw_1_113) rfl rfl rfl (by decide +kernel) ⟨Nat.le_of_ble_eq_true rfl, Nat.le_of_ble_eq_true rfl⟩) (jv_pv hK hP hD [3, 4, 5, 6, 7] rfl (by decide) rfl (va_recv hK hP (ci := 0) (q0 := 3) rfl rfl)) rfl rfl hl.1 rfl (lv_room (Nat.le_of_ble_eq_true rfl)) dd_V_close_4 ⟨Nat.le_of_ble_eq_true rfl, Nat.le_of_ble_eq_true rfl⟩) hP hD hS hA [3, 4, 5, 6, 7] [0, 1, 2, 8, 9, 10, 11, 12] rfl rfl (by decide) (by decide) (fun H_3 locs_4 hP hD hS => ?_)
  have hP : va_P (dC, dI) vwCl [(h0, .inr (5, [.ref h1, .ref h3, .ref h8, .long bn])), (h1, .inr (1, [.ref h2, .int zp])), (h2, .inl (cC, 3000, .inl ch)), (h3, .inr (0, [.ref h4, .ref h5, .ref h6, .ref h7, .int ct, .int o_4.2.1, .int o_4.2.2.1])), (h4, .inl (cI, 24, .inl o_4.2.2.2)), (h5, .inl (cI, 24, .inl dp)), (h6, .inl (cI, 24, .inl su)), (h7, .inl (cL, 24, .inr (.inl nm))), (h8, .inr (0, [.ref h9, .ref h10, .ref h11, .ref h12, .int ct2, .int lo2, .int oc2])), (h9, .inl (cI, 24, .inl kd2)), (h10, .inl (cI, 24, .inl dp2)), (h11, .inl (cI, 24, .inl su2)), (h12, .inl (cL, 24, .inr (.inl nm2)))] H_3 := hP.sub [0, 1, 2, 8, 9, 10, 11, 12, 3, 4, 5, 6, 7] rfl
  have hD : va_D A [(h0, .inr (5, [.ref h1, .ref h3, .ref h8, .long bn])), (h1, .inr (1, [.ref h2, .int zp])), (h2, .inl (cC, 3000, .inl ch)), (h3, .inr (0, [.ref h4, .ref h5, .ref h6, .ref h7, .int ct, .int o_4.2.1, .int o_4.2.2.1])), (h4, .inl (cI, 24, .inl o_4.2.2.2)), (h5, .inl (cI, 24, .inl dp)), (h6, .inl (cI, 24, .inl su)), (h7, .inl (cL, 24, .inr (.inl nm))), (h8, .inr (0, [.ref h9, .ref h10, .ref h11, .ref h12, .int ct2, .int lo2, .int oc2])), (h9, .inl (cI, 24, .inl kd2)), (h10, .inl (cI, 24, .inl dp2)), (h11, .inl (cI, 24, .inl su2)), (h12, .inl (cL, 24, .inr (.inl nm2)))] := hD.sub [0, 1, 2, 8, 9, 10, 11, 12, 3, 4, 5, 6, 7] (by decide) rfl
  obtain ⟨z_5, hF⟩ := jv_gi hF
  subst hQ
  obtain rfl := Option.some.inj hF
  exact W.zret (v := o_4.1) hx hb hr (jv_zn z_5).1 (fun t ht hW => ⟨⟨o_4.1, (), rfl, rfl, by rw [ht]; exact hP, va_K.moved hW.alike hK, hD⟩, hS.F ht⟩) hS.2.2 dd_V_close_7
set_option maxHeartbeats 40000000 in
set_option maxRecDepth 100000 in
theorem c_V_test (l : Launch) (dC : Nat → ClassId) (dI : Nat → Nat → Nat) (cI cL cC cZ : ClassId) (h0 h1 h2 h3 h4 h5 h6 h7 h8 h9 h10 h11 h12 : Nat) (sz : Nat) (bn : Int64) (zp : Int32) (ch : Nat → Int32) (ct : Int32) (lo : Int32) (oc : Int32) (kd : Nat → Int32) (dp : Nat → Int32) (su : Nat → Int32) (nm : Nat → Int64) (ct2 : Int32) (lo2 : Int32) (oc2 : Int32) (kd2 : Nat → Int32) (dp2 : Nat → Int32) (su2 : Nat → Int32) (nm2 : Nat → Int64) (x1 : Int32) (out : Int32 × Int64 × Int32 × Int32 × Int32 × (Nat → Int32) × (Nat → Int32) × (Nat → Int32) × (Nat → Int64)) (hF : fn_V_test bn ct lo oc kd dp su nm x1 = some out) : Met l yy_V_test ws_V_test { frames := 2, cells := 0, slots := 0, locals := 46 } (mP_ (dC, dI) (tk_ cI cL cC cZ) [(h0, .inr (5, [.ref h1, .ref h3, .ref h8, .long bn])), (h1, .inr (1, [.ref h2, .int zp])), (h2, .inl (cC, 3000, .inl ch)), (h3, .inr (0, [.ref h4, .ref h5, .ref h6, .ref h7, .int ct, .int lo, .int oc])), (h4, .inl (cI, 24, .inl kd)), (h5, .inl (cI, 24, .inl dp)), (h6, .inl (cI, 24, .inl su)), (h7, .inl (cL, 24, .inr (.inl nm))), (h8, .inr (0, [.ref h9, .ref h10, .ref h11, .ref h12, .int ct2, .int lo2, .int oc2])), (h9, .inl (cI, 24, .inl kd2)), (h10, .inl (cI, 24, .inl dp2)), (h11, .inl (cI, 24, .inl su2)), (h12, .inl (cL, 24, .inr (.inl nm2)))] sz [.ref h0, .int x1]) (va_Qi (fun r (_ : Unit) => r = out.1) (mB_ (dC, dI) (tk_ cI cL cC cZ) [(h0, .inr (5, [.ref h1, .ref h3, .ref h8, .long out.2.1])), (h1, .inr (1, [.ref h2, .int zp])), (h2, .inl (cC, 3000, .inl ch)), (h3, .inr (0, [.ref h4, .ref h5, .ref h6, .ref h7, .int out.2.2.1, .int out.2.2.2.1, .int out.2.2.2.2.1])), (h4, .inl (cI, 24, .inl out.2.2.2.2.2.1)), (h5, .inl (cI, 24, .inl out.2.2.2.2.2.2.1)), (h6, .inl (cI, 24, .inl out.2.2.2.2.2.2.2.1)), (h7, .inl (cL, 24, .inr (.inl out.2.2.2.2.2.2.2.2))), (h8, .inr (0, [.ref h9, .ref h10, .ref h11, .ref h12, .int ct2, .int lo2, .int oc2])), (h9, .inl (cI, 24, .inl kd2)), (h10, .inl (cI, 24, .inl dp2)), (h11, .inl (cI, 24, .inl su2)), (h12, .inl (cL, 24, .inr (.inl nm2)))] (va_A [(h0, .inr (5, [.ref h1, .ref h3, .ref h8, .long bn])), (h1, .inr (1, [.ref h2, .int zp])), (h2, .inl (cC, 3000, .inl ch)), (h3, .inr (0, [.ref h4, .ref h5, .ref h6, .ref h7, .int ct, .int lo, .int oc])), (h4, .inl (cI, 24, .inl kd)), (h5, .inl (cI, 24, .inl dp)), (h6, .inl (cI, 24, .inl su)), (h7, .inl (cL, 24, .inr (.inl nm))), (h8, .inr (0, [.ref h9, .ref h10, .ref h11, .ref h12, .int ct2, .int lo2, .int oc2])), (h9, .inl (cI, 24, .inl kd2)), (h10, .inl (cI, 24, .inl dp2)), (h11, .inl (cI, 24, .inl su2)), (h12, .inl (cL, 24, .inr (.inl nm2)))] sz)) (va_A [(h0, .inr (5, [.ref h1, .ref h3, .ref h8, .long bn])), (h1, .inr (1, [.ref h2, .int zp])), (h2, .inl (cC, 3000, .inl ch)), (h3, .inr (0, [.ref h4, .ref h5, .ref h6, .ref h7, .int ct, .int lo, .int oc])), (h4, .inl (cI, 24, .inl kd)), (h5, .inl (cI, 24, .inl dp)), (h6, .inl (cI, 24, .inl su)), (h7, .inl (cL, 24, .inr (.inl nm))), (h8, .inr (0, [.ref h9, .ref h10, .ref h11, .ref h12, .int ct2, .int lo2, .int oc2])), (h9, .inl (cI, 24, .inl kd2)), (h10, .inl (cI, 24, .inl dp2)), (h11, .inl (cI, 24, .inl su2)), (h12, .inl (cL, 24, .inr (.inl nm2)))] sz)) 0 0 (va_A [(h0, .inr (5, [.ref h1, .ref h3, .ref h8, .long bn])), (h1, .inr (1, [.ref h2, .int zp])), (h2, .inl (cC, 3000, .inl ch)), (h3, .inr (0, [.ref h4, .ref h5, .ref h6, .ref h7, .int ct, .int lo, .int oc])), (h4, .inl (cI, 24, .inl kd)), (h5, .inl (cI, 24, .inl dp)), (h6, .inl (cI, 24, .inl su)), (h7, .inl (cL, 24, .inr (.inl nm))), (h8, .inr (0, [.ref h9, .ref h10, .ref h11, .ref h12, .int ct2, .int lo2, .int oc2])), (h9, .inl (cI, 24, .inl kd2)), (h10, .inl (cI, 24, .inl dp2)), (h11, .inl (cI, 24, .inl su2)), (h12, .inl (cL, 24, .inr (.inl nm2)))] sz) := by
  refine Met.ofW (cc := cc_V_test) (maxL := 2) (ret := (some .int)) (by decide) rfl ?_
  intro p e s m args below meth c s₁ B hml hv
  obtain ⟨hargs, hsz, hP, hK, hD0⟩ := hv
  have hx := B.exec
  have hb := B.bytes
  have hr := B.returns
  have hts := atoms_spec (ws := ws_V_test) B.pre
  have ht : ∀ w ∈ TB_, w.before args s = true := fun w h => hts w (List.mem_cons_of_mem _ h)
  have hown : s.vm.findClass cn_V = some m.cls := findClass_of_methodNamed B.named
  have hlocks := B.notSynchronized
  subst hsz
  have hD := hD0.self (sz := s.heap.size)
  generalize hAe : va_A [(h0, .inr (5, [.ref h1, .ref h3, .ref h8, .long bn])), (h1, .inr (1, [.ref h2, .int zp])), (h2, .inl (cC, 3000, .inl ch)), (h3, .inr (0, [.ref h4, .ref h5, .ref h6, .ref h7, .int ct, .int lo, .int oc])), (h4, .inl (cI, 24, .inl kd)), (h5, .inl (cI, 24, .inl dp)), (h6, .inl (cI, 24, .inl su)), (h7, .inl (cL, 24, .inr (.inl nm))), (h8, .inr (0, [.ref h9, .ref h10, .ref h11, .ref h12, .int ct2, .int lo2, .int oc2])), (h9, .inl (cI, 24, .inl kd2)), (h10, .inl (cI, 24, .inl dp2)), (h11, .inl (cI, 24, .inl su2)), (h12, .inl (cL, 24, .inr (.inl nm2)))] s.heap.size = A at hD ⊢
  have hA : ∀ q : Nat, s.heap.size ≤ q → A q := fun q h => by rw [← hAe]; exact Or.inr h
  have hS : va_S A s.heap s.heap [] := va_S.rf
  have hP : va_P (dC, dI) vwCl [(h0, .inr (5, [.ref h1, .ref h3, .ref h8, .long bn])), (h1, .inr (1, [.ref h2, .int zp])), (h2, .inl (cC, 3000, .inl ch)), (h3, .inr (0, [.ref h4, .ref h5, .ref h6, .ref h7, .int ct, .int lo, .int oc])), (h4, .inl (cI, 24, .inl kd)), (h5, .inl (cI, 24, .inl dp)), (h6, .inl (cI, 24, .inl su)), (h7, .inl (cL, 24, .inr (.inl nm))), (h8, .inr (0, [.ref h9, .ref h10, .ref h11, .ref h12, .int ct2, .int lo2, .int oc2])), (h9, .inl (cI, 24, .inl kd2)), (h10, .inl (cI, 24, .inl dp2)), (h11, .inl (cI, 24, .inl su2)), (h12, .inl (cL, 24, .inr (.inl nm2)))] s.heap := hP
  have hl := lv_entry [.ref h0, .int x1] (n := 2) (Nat.le_of_ble_eq_true rfl)
  have he : entryFrame m args 2 = _ := (congrArg (fun a => entryFrame m a 2) hargs).trans (lg_entry_eq m [.ref h0, .int x1] 2)
  rw [he]
  generalize (lg_sl [.ref h0, .int x1] ++ List.replicate (2 - (lg_sl [.ref h0, .int x1]).length) Slot.unset).toArray = ls at hl ⊢
  have hl : lv_has ls 2 [(0, .ref h0), (1, .int x1)] := hl
  generalize hQ : MQ below _ args s _ _ _ = Q
  unfold fn_V_test at hF
  refine lv_iload_n hx hb dd_V_test_0 rfl (lv_at hl 1 rfl) ?_
  refine lv_if_lt (tgt := 9) hx hb dd_V_test_1 (by decide) (fun c_5 => ?_) (fun c_5 => ?_)
  · have hF := jv_t c_5 hF
    refine lv_iconst (v := (-1)) hx hb dd_V_test_9 (by decide) ?_
    subst hQ
    obtain rfl := Option.some.inj hF
    exact W.iret (v := (-1)) hx hb hr (fun t ht hW => ⟨⟨(-1), (), rfl, rfl, by rw [ht]; exact hP, va_K.moved hW.alike hK, hD⟩, hS.F ht⟩) hS.2.2 dd_V_test_10
  · have hF := jv_f c_5 hF
    refine lv_iload_n hx hb dd_V_test_4 rfl (lv_at hl 1 rfl) ?_
    refine lv_iconst (v := 3) hx hb dd_V_test_5 (by decide) ?_
    refine lv_icmp_le (tgt := 11) hx hb dd_V_test_6 (by decide) (fun c_6 => ?_) (fun c_6 => ?_)
    · have hF := jv_t c_6 hF
      refine lv_aload_n hx hb dd_V_test_11 rfl (lv_at hl 0 rfl) ?_
      refine lv_iload_n hx hb dd_V_test_12 rfl (lv_at hl 1 rfl) ?_
      obtain ⟨o_13, ho_13, hF⟩ := jv_bi hF
      refine jv_mi (wr := []) (w1 := [(h0, .inr (5, [.ref h1, .ref h3, .ref h8, .long o_13.2.1])), (h1, .inr (1, [.ref h2, .int zp])), (h2, .inl (cC, 3000, .inl ch)), (h3, .inr (0, [.ref h4, .ref h5, .ref h6, .ref h7, .int o_13.2.2.1, .int o_13.2.2.2.1, .int o_13.2.2.2.2.1])), (h4, .inl (cI, 24, .inl o_13.2.2.2.2.2.1)), (h5, .inl (cI, 24, .inl o_13.2.2.2.2.2.2.1)), (h6, .inl (cI, 24, .inl o_13.2.2.2.2.2.2.2.1)), (h7, .inl (cL, 24, .inr (.inl o_13.2.2.2.2.2.2.2.2))), (h8, .inr (0, [.ref h9, .ref h10, .ref h11, .ref h12, .int ct2, .int lo2, .int oc2])), (h9, .inl (cI, 24, .inl kd2)), (h10, .inl (cI, 24, .inl dp2)), (h11, .inl (cI, 24, .inl su2)), (h12, .inl (cL, 24, .inr (.inl nm2)))]) (va_runV (C := cn_V) (As := [.int x1]) (rest := []) ⟨hx, hb, hml, hown, ht⟩ (c_V_addWithBegunName l dC dI cI cL cC cZ h0 h1 h2 h3 h4 h5 h6 h7 h8 h9 h10 h11 h12 s.heap.size bn zp ch ct lo oc kd dp su nm ct2 lo2 oc2 kd2 dp2 su2 nm2 x1 _ ho_13) (cwV 1 ht (gi_V tw_1_98 tw_1_100 tw_p_0 tw_1_1 tw_1_101) rfl rfl rfl (by decide +kernel) ⟨Nat.le_of_ble_eq_true rfl, Nat.le_of_ble_eq_true rfl⟩) (jv_pv hK hP hD [0, 1, 2, 3, 4, 5, 6, 7, 8, 9, 10, 11, 12] rfl (by decide) rfl (va_recv hK hP (ci := 5) (q0 := 0) rfl rfl)) rfl rfl hl.1 rfl (lv_room (Nat.le_of_ble_eq_true rfl)) dd_V_test_13 ⟨Nat.le_of_ble_eq_true rfl, Nat.le_of_ble_eq_true rfl⟩) hP hD hS hA [0, 1, 2, 3, 4, 5, 6, 7, 8, 9, 10, 11, 12] [] rfl rfl (by decide) (by decide) (fun H_7 locs_8 hP hD hS => ?_)
      have hP : va_P (dC, dI) vwCl [(h0, .inr (5, [.ref h1, .ref h3, .ref h8, .long o_13.2.1])), (h1, .inr (1, [.ref h2, .int zp])), (h2, .inl (cC, 3000, .inl ch)), (h3, .inr (0, [.ref h4, .ref h5, .ref h6, .ref h7, .int o_13.2.2.1, .int o_13.2.2.2.1, .int o_13.2.2.2.2.1])), (h4, .inl (cI, 24, .inl o_13.2.2.2.2.2.1)), (h5, .inl (cI, 24, .inl o_13.2.2.2.2.2.2.1)), (h6, .inl (cI, 24, .inl o_13.2.2.2.2.2.2.2.1)), (h7, .inl (cL, 24, .inr (.inl o_13.2.2.2.2.2.2.2.2))), (h8, .inr (0, [.ref h9, .ref h10, .ref h11, .ref h12, .int ct2, .int lo2, .int oc2])), (h9, .inl (cI, 24, .inl kd2)), (h10, .inl (cI, 24, .inl dp2)), (h11, .inl (cI, 24, .inl su2)), (h12, .inl (cL, 24, .inr (.inl nm2)))] H_7 := hP.sub [0, 1, 2, 3, 4, 5, 6, 7, 8, 9, 10, 11, 12] rfl
      have hD : va_D A [(h0, .inr (5, [.ref h1, .ref h3, .ref h8, .long o_13.2.1])), (h1, .inr (1, [.ref h2, .int zp])), (h2, .inl (cC, 3000, .inl ch)), (h3, .inr (0, [.ref h4, .ref h5, .ref h6, .ref h7, .int o_13.2.2.1, .int o_13.2.2.2.1, .int o_13.2.2.2.2.1])), (h4, .inl (cI, 24, .inl o_13.2.2.2.2.2.1)), (h5, .inl (cI, 24, .inl o_13.2.2.2.2.2.2.1)), (h6, .inl (cI, 24, .inl o_13.2.2.2.2.2.2.2.1)), (h7, .inl (cL, 24, .inr (.inl o_13.2.2.2.2.2.2.2.2))), (h8, .inr (0, [.ref h9, .ref h10, .ref h11, .ref h12, .int ct2, .int lo2, .int oc2])), (h9, .inl (cI, 24, .inl kd2)), (h10, .inl (cI, 24, .inl dp2)), (h11, .inl (cI, 24, .inl su2)), (h12, .inl (cL, 24, .inr (.inl nm2)))] := hD.sub [0, 1, 2, 3, 4, 5, 6, 7, 8, 9, 10, 11, 12] (by decide) rfl
      subst hQ
      obtain rfl := Option.some.inj hF
      exact W.iret (v := o_13.1) hx hb hr (fun t ht hW => ⟨⟨o_13.1, (), rfl, rfl, by rw [ht]; exact hP, va_K.moved hW.alike hK, hD⟩, hS.F ht⟩) hS.2.2 dd_V_test_16
    · have hF := jv_f c_6 hF
      refine lv_iconst (v := (-1)) hx hb dd_V_test_9 (by decide) ?_
      subst hQ
      obtain rfl := Option.some.inj hF
      exact W.iret (v := (-1)) hx hb hr (fun t ht hW => ⟨⟨(-1), (), rfl, rfl, by rw [ht]; exact hP, va_K.moved hW.alike hK, hD⟩, hS.F ht⟩) hS.2.2 dd_V_test_10
set_option maxHeartbeats 40000000 in
set_option maxRecDepth 100000 in
theorem c_V_name (l : Launch) (dC : Nat → ClassId) (dI : Nat → Nat → Nat) (cI cL cC cZ : ClassId) (h0 h1 h2 h3 h4 h5 h6 h7 h8 h9 h10 h11 h12 : Nat) (sz : Nat) (bn : Int64) (zp : Int32) (ch : Nat → Int32) (ct : Int32) (lo : Int32) (oc : Int32) (kd : Nat → Int32) (dp : Nat → Int32) (su : Nat → Int32) (nm : Nat → Int64) (ct2 : Int32) (lo2 : Int32) (oc2 : Int32) (kd2 : Nat → Int32) (dp2 : Nat → Int32) (su2 : Nat → Int32) (nm2 : Nat → Int64) (x1 : Int32) (x2 : Int32) (out : Int32) (hF : fn_V_name ct nm x1 x2 = some out) : Met l yy_V_name ws_V_name { frames := 2, cells := 0, slots := 0, locals := 44 } (mP_ (dC, dI) (tk_ cI cL cC cZ) [(h0, .inr (5, [.ref h1, .ref h3, .ref h8, .long bn])), (h1, .inr (1, [.ref h2, .int zp])), (h2, .inl (cC, 3000, .inl ch)), (h3, .inr (0, [.ref h4, .ref h5, .ref h6, .ref h7, .int ct, .int lo, .int oc])), (h4, .inl (cI, 24, .inl kd)), (h5, .inl (cI, 24, .inl dp)), (h6, .inl (cI, 24, .inl su)), (h7, .inl (cL, 24, .inr (.inl nm))), (h8, .inr (0, [.ref h9, .ref h10, .ref h11, .ref h12, .int ct2, .int lo2, .int oc2])), (h9, .inl (cI, 24, .inl kd2)), (h10, .inl (cI, 24, .inl dp2)), (h11, .inl (cI, 24, .inl su2)), (h12, .inl (cL, 24, .inr (.inl nm2)))] sz [.ref h0, .int x1, .int x2]) (vp_Si (fun r => r = out)) 0 0 (fun _ => False) := by
  refine Met.ofW (cc := cc_V_name) (maxL := 5) (ret := (some .int)) (by decide) rfl ?_
  intro p e s m args below meth c s₁ B hml hv
  obtain ⟨hargs, hsz, hP, hK, hD0⟩ := hv
  have hx := B.exec
  have hb := B.bytes
  have hr := B.returns
  have hts := atoms_spec (ws := ws_V_name) B.pre
  have ht : ∀ w ∈ TB_, w.before args s = true := fun w h => hts w (List.mem_cons_of_mem _ h)
  have hown : s.vm.findClass cn_V = some m.cls := findClass_of_methodNamed B.named
  have hlocks := B.notSynchronized
  subst hsz
  have hD := hD0.self (sz := s.heap.size)
  generalize hAe : va_A [(h0, .inr (5, [.ref h1, .ref h3, .ref h8, .long bn])), (h1, .inr (1, [.ref h2, .int zp])), (h2, .inl (cC, 3000, .inl ch)), (h3, .inr (0, [.ref h4, .ref h5, .ref h6, .ref h7, .int ct, .int lo, .int oc])), (h4, .inl (cI, 24, .inl kd)), (h5, .inl (cI, 24, .inl dp)), (h6, .inl (cI, 24, .inl su)), (h7, .inl (cL, 24, .inr (.inl nm))), (h8, .inr (0, [.ref h9, .ref h10, .ref h11, .ref h12, .int ct2, .int lo2, .int oc2])), (h9, .inl (cI, 24, .inl kd2)), (h10, .inl (cI, 24, .inl dp2)), (h11, .inl (cI, 24, .inl su2)), (h12, .inl (cL, 24, .inr (.inl nm2)))] s.heap.size = A at hD
  have hA : ∀ q : Nat, s.heap.size ≤ q → A q := fun q h => by rw [← hAe]; exact Or.inr h
  have hS : va_S A s.heap s.heap [] := va_S.rf
  have hP : va_P (dC, dI) vwCl [(h0, .inr (5, [.ref h1, .ref h3, .ref h8, .long bn])), (h1, .inr (1, [.ref h2, .int zp])), (h2, .inl (cC, 3000, .inl ch)), (h3, .inr (0, [.ref h4, .ref h5, .ref h6, .ref h7, .int ct, .int lo, .int oc])), (h4, .inl (cI, 24, .inl kd)), (h5, .inl (cI, 24, .inl dp)), (h6, .inl (cI, 24, .inl su)), (h7, .inl (cL, 24, .inr (.inl nm))), (h8, .inr (0, [.ref h9, .ref h10, .ref h11, .ref h12, .int ct2, .int lo2, .int oc2])), (h9, .inl (cI, 24, .inl kd2)), (h10, .inl (cI, 24, .inl dp2)), (h11, .inl (cI, 24, .inl su2)), (h12, .inl (cL, 24, .inr (.inl nm2)))] s.heap := hP
  have hl := lv_entry [.ref h0, .int x1, .int x2] (n := 5) (Nat.le_of_ble_eq_true rfl)
  have he : entryFrame m args 5 = _ := (congrArg (fun a => entryFrame m a 5) hargs).trans (lg_entry_eq m [.ref h0, .int x1, .int x2] 5)
  rw [he]
  generalize (lg_sl [.ref h0, .int x1, .int x2] ++ List.replicate (5 - (lg_sl [.ref h0, .int x1, .int x2]).length) Slot.unset).toArray = ls at hl ⊢
  have hl : lv_has ls 5 [(0, .ref h0), (1, .int x1), (2, .int x2)] := hl
  generalize hQ : MQ below _ args s _ _ _ = Q
  unfold fn_V_name at hF
  refine lv_aload_n hx hb dd_V_name_0 rfl (lv_at hl 0 rfl) ?_
  refine va_get (D := (dC, dI)) (ci := 5) (v := .ref h3) (C := cn_V) (T := tt_V) (N := 4) hx hb ht in_V hown hK hP 0 rfl rfl 1 (by decide) (ht _ tw_1_66) (fun _ h9 => h9) rfl dd_V_name_1 ?_
  refine lv_iload_n hx hb dd_V_name_4 rfl (lv_at hl 1 rfl) ?_
  obtain ⟨o_5, ho_5, hF⟩ := jv_bi hF
  refine jv_cl (va_runV (C := cn_R) (As := [.int x1]) (rest := []) ⟨hx, hb, hml, hown, ht⟩ (c_R_nameOf l dC dI cI cL cC cZ h3 h4 h5 h6 h7 s.heap.size ct lo oc kd dp su nm x1 _ ho_5) (cwV 1 ht (gi_V tw_1_163 tw_1_164 tw_1_165 tw_1_3 tw_1_166) rfl rfl rfl (by decide +kernel) ⟨Nat.le_of_ble_eq_true rfl, Nat.le_of_ble_eq_true rfl⟩) (jv_pv hK hP hD [3, 4, 5, 6, 7] rfl (by decide) rfl (va_recv hK hP (ci := 0) (q0 := 3) rfl rfl)) rfl rfl hl.1 rfl (lv_room (Nat.le_of_ble_eq_true rfl)) dd_V_name_5 ⟨Nat.le_of_ble_eq_true rfl, Nat.le_of_ble_eq_true rfl⟩) ?_
  refine lv_lstore_n (lv' := [(3, .long o_5), (0, .ref h0), (1, .int x1), (2, .int x2)]) hx hb dd_V_name_8 rfl hl (by decide) rfl (fun ls hl => ?_)
  refine lv_iload_n hx hb dd_V_name_9 rfl (lv_at hl 3 rfl) ?_
  refine lv_if_lt (tgt := 29) hx hb dd_V_name_10 (by decide) (fun c_3 => ?_) (fun c_3 => ?_)
  · have hF := jv_t c_3 hF
    refine lv_iconst (v := (-1)) hx hb dd_V_name_29 (by decide) ?_
    subst hQ
    exact W.iret (v := (-1)) hx hb hr (fun t ht hW => ⟨(-1), rfl, (Option.some.inj hF), ht⟩) (fun _ h => by cases h) dd_V_name_30
  · have hF := jv_f c_3 hF
    refine lv_iload_n hx hb dd_V_name_13 rfl (lv_at hl 3 rfl) ?_
    refine lv_lload_n hx hb dd_V_name_14 rfl (lv_at hl 0 rfl) ?_
    obtain ⟨o_15, ho_15, hF⟩ := jv_bi hF
    refine jv_ci (va_runS (As := [.long o_5]) (rest := [.int x2]) ⟨hx, hb, hml, hown, ht⟩ (c_N_sizeOf l dC dI cI cL cC cZ s.heap.size o_5 _ ho_15) (va_cwS 1 ht (gi_S tw_1_82 tw_1_83 tw_1_5 tw_1_84) rfl rfl rfl (by decide +kernel) ⟨Nat.le_of_ble_eq_true rfl, Nat.le_of_ble_eq_true rfl⟩) (jv_ps hK hP hD [] rfl (by decide) rfl) rfl rfl hl.1 rfl (lv_room (Nat.le_of_ble_eq_true rfl)) dd_V_name_15 ⟨Nat.le_of_ble_eq_true rfl, Nat.le_of_ble_eq_true rfl⟩) ?_
    refine lv_icmp_ge (tgt := 29) hx hb dd_V_name_18 (by decide) (fun c_4 => ?_) (fun c_4 => ?_)
    · have hF := jv_t c_4 hF
      refine lv_iconst (v := (-1)) hx hb dd_V_name_29 (by decide) ?_
      subst hQ
      exact W.iret (v := (-1)) hx hb hr (fun t ht hW => ⟨(-1), rfl, (Option.some.inj hF), ht⟩) (fun _ h => by cases h) dd_V_name_30
    · have hF := jv_f c_4 hF
      refine lv_lload_n hx hb dd_V_name_21 rfl (lv_at hl 0 rfl) ?_
      refine lv_iload_n hx hb dd_V_name_22 rfl (lv_at hl 3 rfl) ?_
      obtain ⟨o_23, ho_23, hF⟩ := jv_bi hF
      refine jv_ci (va_runS (As := [.long o_5, .int x2]) (rest := []) ⟨hx, hb, hml, hown, ht⟩ (c_N_codeAt l dC dI cI cL cC cZ s.heap.size o_5 x2 _ ho_23) (va_cwS 2 ht (gi_S tw_1_167 tw_1_86 tw_1_5 tw_1_87) rfl rfl rfl (by decide +kernel) ⟨Nat.le_of_ble_eq_true rfl, Nat.le_of_ble_eq_true rfl⟩) (jv_ps hK hP hD [] rfl (by decide) rfl) rfl rfl hl.1 rfl (lv_room (Nat.le_of_ble_eq_true rfl)) dd_V_name_23 ⟨Nat.le_of_ble_eq_true rfl, Nat.le_of_ble_eq_true rfl⟩) ?_
      refine lv_goto (tgt := 30) hx hb dd_V_name_26 (by decide) ?_
      subst hQ
      exact W.iret (v := o_23) hx hb hr (fun t ht hW => ⟨o_23, rfl, (Option.some.inj hF), ht⟩) (fun _ h => by cases h) dd_V_name_30
set_option maxHeartbeats 40000000 in
set_option maxRecDepth 100000 in
theorem c_V_put (l : Launch) (dC : Nat → ClassId) (dI : Nat → Nat → Nat) (cI cL cC cZ : ClassId) (h0 h1 h2 h3 h4 h5 h6 h7 h8 h9 h10 h11 h12 : Nat) (sz : Nat) (bn : Int64) (zp : Int32) (ch : Nat → Int32) (ct : Int32) (lo : Int32) (oc : Int32) (kd : Nat → Int32) (dp : Nat → Int32) (su : Nat → Int32) (nm : Nat → Int64) (ct2 : Int32) (lo2 : Int32) (oc2 : Int32) (kd2 : Nat → Int32) (dp2 : Nat → Int32) (su2 : Nat → Int32) (nm2 : Nat → Int64) (x1 : Int32) (out : Int32 × Int32 × (Nat → Int32)) (hF : fn_V_put zp ch x1 = some out) : Met l yy_V_put ws_V_put { frames := 2, cells := 0, slots := 0, locals := 40 } (mP_ (dC, dI) (tk_ cI cL cC cZ) [(h0, .inr (5, [.ref h1, .ref h3, .ref h8, .long bn])), (h1, .inr (1, [.ref h2, .int zp])), (h2, .inl (cC, 3000, .inl ch)), (h3, .inr (0, [.ref h4, .ref h5, .ref h6, .ref h7, .int ct, .int lo, .int oc])), (h4, .inl (cI, 24, .inl kd)), (h5, .inl (cI, 24, .inl dp)), (h6, .inl (cI, 24, .inl su)), (h7, .inl (cL, 24, .inr (.inl nm))), (h8, .inr (0, [.ref h9, .ref h10, .ref h11, .ref h12, .int ct2, .int lo2, .int oc2])), (h9, .inl (cI, 24, .inl kd2)), (h10, .inl (cI, 24, .inl dp2)), (h11, .inl (cI, 24, .inl su2)), (h12, .inl (cL, 24, .inr (.inl nm2)))] sz [.ref h0, .int x1]) (va_Qi (fun r (_ : Unit) => r = out.1) (mB_ (dC, dI) (tk_ cI cL cC cZ) [(h0, .inr (5, [.ref h1, .ref h3, .ref h8, .long bn])), (h1, .inr (1, [.ref h2, .int out.2.1])), (h2, .inl (cC, 3000, .inl out.2.2)), (h3, .inr (0, [.ref h4, .ref h5, .ref h6, .ref h7, .int ct, .int lo, .int oc])), (h4, .inl (cI, 24, .inl kd)), (h5, .inl (cI, 24, .inl dp)), (h6, .inl (cI, 24, .inl su)), (h7, .inl (cL, 24, .inr (.inl nm))), (h8, .inr (0, [.ref h9, .ref h10, .ref h11, .ref h12, .int ct2, .int lo2, .int oc2])), (h9, .inl (cI, 24, .inl kd2)), (h10, .inl (cI, 24, .inl dp2)), (h11, .inl (cI, 24, .inl su2)), (h12, .inl (cL, 24, .inr (.inl nm2)))] (va_A [(h0, .inr (5, [.ref h1, .ref h3, .ref h8, .long bn])), (h1, .inr (1, [.ref h2, .int zp])), (h2, .inl (cC, 3000, .inl ch)), (h3, .inr (0, [.ref h4, .ref h5, .ref h6, .ref h7, .int ct, .int lo, .int oc])), (h4, .inl (cI, 24, .inl kd)), (h5, .inl (cI, 24, .inl dp)), (h6, .inl (cI, 24, .inl su)), (h7, .inl (cL, 24, .inr (.inl nm))), (h8, .inr (0, [.ref h9, .ref h10, .ref h11, .ref h12, .int ct2, .int lo2, .int oc2])), (h9, .inl (cI, 24, .inl kd2)), (h10, .inl (cI, 24, .inl dp2)), (h11, .inl (cI, 24, .inl su2)), (h12, .inl (cL, 24, .inr (.inl nm2)))] sz)) (va_A [(h0, .inr (5, [.ref h1, .ref h3, .ref h8, .long bn])), (h1, .inr (1, [.ref h2, .int zp])), (h2, .inl (cC, 3000, .inl ch)), (h3, .inr (0, [.ref h4, .ref h5, .ref h6, .ref h7, .int ct, .int lo, .int oc])), (h4, .inl (cI, 24, .inl kd)), (h5, .inl (cI, 24, .inl dp)), (h6, .inl (cI, 24, .inl su)), (h7, .inl (cL, 24, .inr (.inl nm))), (h8, .inr (0, [.ref h9, .ref h10, .ref h11, .ref h12, .int ct2, .int lo2, .int oc2])), (h9, .inl (cI, 24, .inl kd2)), (h10, .inl (cI, 24, .inl dp2)), (h11, .inl (cI, 24, .inl su2)), (h12, .inl (cL, 24, .inr (.inl nm2)))] sz)) 0 0 (va_A [(h0, .inr (5, [.ref h1, .ref h3, .ref h8, .long bn])), (h1, .inr (1, [.ref h2, .int zp])), (h2, .inl (cC, 3000, .inl ch)), (h3, .inr (0, [.ref h4, .ref h5, .ref h6, .ref h7, .int ct, .int lo, .int oc])), (h4, .inl (cI, 24, .inl kd)), (h5, .inl (cI, 24, .inl dp)), (h6, .inl (cI, 24, .inl su)), (h7, .inl (cL, 24, .inr (.inl nm))), (h8, .inr (0, [.ref h9, .ref h10, .ref h11, .ref h12, .int ct2, .int lo2, .int oc2])), (h9, .inl (cI, 24, .inl kd2)), (h10, .inl (cI, 24, .inl dp2)), (h11, .inl (cI, 24, .inl su2)), (h12, .inl (cL, 24, .inr (.inl nm2)))] sz) := by
  refine Met.ofW (cc := cc_V_put) (maxL := 2) (ret := (some .boolean)) (by decide) rfl ?_
  intro p e s m args below meth c s₁ B hml hv
  obtain ⟨hargs, hsz, hP, hK, hD0⟩ := hv
  have hx := B.exec
  have hb := B.bytes
  have hr := B.returns
  have hts := atoms_spec (ws := ws_V_put) B.pre
  have ht : ∀ w ∈ TB_, w.before args s = true := fun w h => hts w (List.mem_cons_of_mem _ h)
  have hown : s.vm.findClass cn_V = some m.cls := findClass_of_methodNamed B.named
  have hlocks := B.notSynchronized
  subst hsz
  have hD := hD0.self (sz := s.heap.size)
  generalize hAe : va_A [(h0, .inr (5, [.ref h1, .ref h3, .ref h8, .long bn])), (h1, .inr (1, [.ref h2, .int zp])), (h2, .inl (cC, 3000, .inl ch)), (h3, .inr (0, [.ref h4, .ref h5, .ref h6, .ref h7, .int ct, .int lo, .int oc])), (h4, .inl (cI, 24, .inl kd)), (h5, .inl (cI, 24, .inl dp)), (h6, .inl (cI, 24, .inl su)), (h7, .inl (cL, 24, .inr (.inl nm))), (h8, .inr (0, [.ref h9, .ref h10, .ref h11, .ref h12, .int ct2, .int lo2, .int oc2])), (h9, .inl (cI, 24, .inl kd2)), (h10, .inl (cI, 24, .inl dp2)), (h11, .inl (cI, 24, .inl su2)), (h12, .inl (cL, 24, .inr (.inl nm2)))] s.heap.size = A at hD ⊢
  have hA : ∀ q : Nat, s.heap.size ≤ q → A q := fun q h => by rw [← hAe]; exact Or.inr h
  have hS : va_S A s.heap s.heap [] := va_S.rf
  have hP : va_P (dC, dI) vwCl [(h0, .inr (5, [.ref h1, .ref h3, .ref h8, .long bn])), (h1, .inr (1, [.ref h2, .int zp])), (h2, .inl (cC, 3000, .inl ch)), (h3, .inr (0, [.ref h4, .ref h5, .ref h6, .ref h7, .int ct, .int lo, .int oc])), (h4, .inl (cI, 24, .inl kd)), (h5, .inl (cI, 24, .inl dp)), (h6, .inl (cI, 24, .inl su)), (h7, .inl (cL, 24, .inr (.inl nm))), (h8, .inr (0, [.ref h9, .ref h10, .ref h11, .ref h12, .int ct2, .int lo2, .int oc2])), (h9, .inl (cI, 24, .inl kd2)), (h10, .inl (cI, 24, .inl dp2)), (h11, .inl (cI, 24, .inl su2)), (h12, .inl (cL, 24, .inr (.inl nm2)))] s.heap := hP
  have hl := lv_entry [.ref h0, .int x1] (n := 2) (Nat.le_of_ble_eq_true rfl)
  have he : entryFrame m args 2 = _ := (congrArg (fun a => entryFrame m a 2) hargs).trans (lg_entry_eq m [.ref h0, .int x1] 2)
  rw [he]
  generalize (lg_sl [.ref h0, .int x1] ++ List.replicate (2 - (lg_sl [.ref h0, .int x1]).length) Slot.unset).toArray = ls at hl ⊢
  have hl : lv_has ls 2 [(0, .ref h0), (1, .int x1)] := hl
  generalize hQ : MQ below _ args s _ _ _ = Q
  unfold fn_V_put at hF
  refine lv_iload_n hx hb dd_V_put_0 rfl (lv_at hl 1 rfl) ?_
  obtain ⟨o_1, ho_1, hF⟩ := jv_bi hF
  refine jv_ci (va_runS (As := [.int x1]) (rest := []) ⟨hx, hb, hml, hown, ht⟩ (c_V_isOfPages l dC dI cI cL cC cZ s.heap.size x1 _ ho_1) (va_cwS 1 ht (gi_S tw_3_2 tw_3_3 tw_1_1 tw_3_4) rfl rfl rfl (by decide +kernel) ⟨Nat.le_of_ble_eq_true rfl, Nat.le_of_ble_eq_true rfl⟩) (jv_ps hK hP hD [] rfl (by decide) rfl) rfl rfl hl.1 rfl (lv_room (Nat.le_of_ble_eq_true rfl)) dd_V_put_1 ⟨Nat.le_of_ble_eq_true rfl, Nat.le_of_ble_eq_true rfl⟩) ?_
  refine lv_if_eq (tgt := 22) hx hb dd_V_put_4 (by decide) (fun c_5 => ?_) (fun c_5 => ?_)
  · have hF := jv_t c_5 hF
    refine lv_iconst (v := 0) hx hb dd_V_put_22 (by decide) ?_
    subst hQ
    obtain rfl := Option.some.inj hF
    exact W.zret (v := 0) hx hb hr rfl (fun t ht hW => ⟨⟨0, (), rfl, rfl, by rw [ht]; exact hP, va_K.moved hW.alike hK, hD⟩, hS.F ht⟩) hS.2.2 dd_V_put_23
  · have hF := jv_f c_5 hF
    refine lv_aload_n hx hb dd_V_put_7 rfl (lv_at hl 0 rfl) ?_
    refine va_get (D := (dC, dI)) (ci := 5) (v := .ref h1) (C := cn_V) (T := tt_V) (N := 4) hx hb ht in_V hown hK hP 0 rfl rfl 0 (by decide) (ht _ tw_1_65) (fun _ h9 => h9) rfl dd_V_put_8 ?_
    refine lv_iload_n hx hb dd_V_put_11 rfl (lv_at hl 1 rfl) ?_
    obtain ⟨o_12, ho_12, hF⟩ := jv_bi hF
    refine jv_mi (wr := [(h0, .inr (5, [.ref h1, .ref h3, .ref h8, .long bn])), (h3, .inr (0, [.ref h4, .ref h5, .ref h6, .ref h7, .int ct, .int lo, .int oc])), (h4, .inl (cI, 24, .inl kd)), (h5, .inl (cI, 24, .inl dp)), (h6, .inl (cI, 24, .inl su)), (h7, .inl (cL, 24, .inr (.inl nm))), (h8, .inr (0, [.ref h9, .ref h10, .ref h11, .ref h12, .int ct2, .int lo2, .int oc2])), (h9, .inl (cI, 24, .inl kd2)), (h10, .inl (cI, 24, .inl dp2)), (h11, .inl (cI, 24, .inl su2)), (h12, .inl (cL, 24, .inr (.inl nm2)))]) (w1 := [(h1, .inr (1, [.ref h2, .int o_12.2.1])), (h2, .inl (cC, 3000, .inl o_12.2.2))]) (va_runV (C := cn_P) (As := [.int x1]) (rest := []) ⟨hx, hb, hml, hown, ht⟩ (c_P_add l dC dI cI cL cC cZ h1 h2 s.heap.size zp ch x1 _ ho_12) (cwV 1 ht (gi_V tw_3_5 tw_2_7 tw_2_8 tw_1_2 tw_2_9) rfl rfl rfl (by decide +kernel) ⟨Nat.le_of_ble_eq_true rfl, Nat.le_of_ble_eq_true rfl⟩) (jv_pv hK hP hD [1, 2] rfl (by decide) rfl (va_recv hK hP (ci := 1) (q0 := 1) rfl rfl)) rfl rfl hl.1 rfl (lv_room (Nat.le_of_ble_eq_true rfl)) dd_V_put_12 ⟨Nat.le_of_ble_eq_true rfl, Nat.le_of_ble_eq_true rfl⟩) hP hD hS hA [1, 2] [0, 3, 4, 5, 6, 7, 8, 9, 10, 11, 12] rfl rfl (by decide) (by decide) (fun H_6 locs_7 hP hD hS => ?_)
    have hP : va_P (dC, dI) vwCl [(h0, .inr (5, [.ref h1, .ref h3, .ref h8, .long bn])), (h1, .inr (1, [.ref h2, .int o_12.2.1])), (h2, .inl (cC, 3000, .inl o_12.2.2)), (h3, .inr (0, [.ref h4, .ref h5, .ref h6, .ref h7, .int ct, .int lo, .int oc])), (h4, .inl (cI, 24, .inl kd)), (h5, .inl (cI, 24, .inl dp)), (h6, .inl (cI, 24, .inl su)), (h7, .inl (cL, 24, .inr (.inl nm))), (h8, .inr (0, [.ref h9, .ref h10, .ref h11, .ref h12, .int ct2, .int lo2, .int oc2])), (h9, .inl (cI, 24, .inl kd2)), (h10, .inl (cI, 24, .inl dp2)), (h11, .inl (cI, 24, .inl su2)), (h12, .inl (cL, 24, .inr (.inl nm2)))] H_6 := hP.sub [0, 11, 12, 1, 2, 3, 4, 5, 6, 7, 8, 9, 10] rfl
    have hD : va_D A [(h0, .inr (5, [.ref h1, .ref h3, .ref h8, .long bn])), (h1, .inr (1, [.ref h2, .int o_12.2.1])), (h2, .inl (cC, 3000, .inl o_12.2.2)), (h3, .inr (0, [.ref h4, .ref h5, .ref h6, .ref h7, .int ct, .int lo, .int oc])), (h4, .inl (cI, 24, .inl kd)), (h5, .inl (cI, 24, .inl dp)), (h6, .inl (cI, 24, .inl su)), (h7, .inl (cL, 24, .inr (.inl nm))), (h8, .inr (0, [.ref h9, .ref h10, .ref h11, .ref h12, .int ct2, .int lo2, .int oc2])), (h9, .inl (cI, 24, .inl kd2)), (h10, .inl (cI, 24, .inl dp2)), (h11, .inl (cI, 24, .inl su2)), (h12, .inl (cL, 24, .inr (.inl nm2)))] := hD.sub [0, 11, 12, 1, 2, 3, 4, 5, 6, 7, 8, 9, 10] (by decide) rfl
    refine lv_if_eq (tgt := 22) hx hb dd_V_put_15 (by decide) (fun c_8 => ?_) (fun c_8 => ?_)
    · have hF := jv_t c_8 hF
      refine lv_iconst (v := 0) hx hb dd_V_put_22 (by decide) ?_
      subst hQ
      obtain rfl := Option.some.inj hF
      exact W.zret (v := 0) hx hb hr rfl (fun t ht hW => ⟨⟨0, (), rfl, rfl, by rw [ht]; exact hP, va_K.moved hW.alike hK, hD⟩, hS.F ht⟩) hS.2.2 dd_V_put_23
    · have hF := jv_f c_8 hF
      refine lv_iconst (v := 1) hx hb dd_V_put_18 (by decide) ?_
      refine lv_goto (tgt := 23) hx hb dd_V_put_19 (by decide) ?_
      subst hQ
      obtain rfl := Option.some.inj hF
      exact W.zret (v := 1) hx hb hr rfl (fun t ht hW => ⟨⟨1, (), rfl, rfl, by rw [ht]; exact hP, va_K.moved hW.alike hK, hD⟩, hS.F ht⟩) hS.2.2 dd_V_put_23
set_option maxHeartbeats 40000000 in
set_option maxRecDepth 100000 in
theorem c_V_poke (l : Launch) (dC : Nat → ClassId) (dI : Nat → Nat → Nat) (cI cL cC cZ : ClassId) (h0 h1 h2 h3 h4 h5 h6 h7 h8 h9 h10 h11 h12 : Nat) (sz : Nat) (bn : Int64) (zp : Int32) (ch : Nat → Int32) (ct : Int32) (lo : Int32) (oc : Int32) (kd : Nat → Int32) (dp : Nat → Int32) (su : Nat → Int32) (nm : Nat → Int64) (ct2 : Int32) (lo2 : Int32) (oc2 : Int32) (kd2 : Nat → Int32) (dp2 : Nat → Int32) (su2 : Nat → Int32) (nm2 : Nat → Int64) (x1 : Int32) (x2 : Int32) (out : Int32 × (Nat → Int32)) (hF : fn_V_poke zp ch x1 x2 = some out) : Met l yy_V_poke ws_V_poke { frames := 2, cells := 0, slots := 0, locals := 40 } (mP_ (dC, dI) (tk_ cI cL cC cZ) [(h0, .inr (5, [.ref h1, .ref h3, .ref h8, .long bn])), (h1, .inr (1, [.ref h2, .int zp])), (h2, .inl (cC, 3000, .inl ch)), (h3, .inr (0, [.ref h4, .ref h5, .ref h6, .ref h7, .int ct, .int lo, .int oc])), (h4, .inl (cI, 24, .inl kd)), (h5, .inl (cI, 24, .inl dp)), (h6, .inl (cI, 24, .inl su)), (h7, .inl (cL, 24, .inr (.inl nm))), (h8, .inr (0, [.ref h9, .ref h10, .ref h11, .ref h12, .int ct2, .int lo2, .int oc2])), (h9, .inl (cI, 24, .inl kd2)), (h10, .inl (cI, 24, .inl dp2)), (h11, .inl (cI, 24, .inl su2)), (h12, .inl (cL, 24, .inr (.inl nm2)))] sz [.ref h0, .int x1, .int x2]) (va_Qi (fun r (_ : Unit) => r = out.1) (mB_ (dC, dI) (tk_ cI cL cC cZ) [(h0, .inr (5, [.ref h1, .ref h3, .ref h8, .long bn])), (h1, .inr (1, [.ref h2, .int zp])), (h2, .inl (cC, 3000, .inl out.2)), (h3, .inr (0, [.ref h4, .ref h5, .ref h6, .ref h7, .int ct, .int lo, .int oc])), (h4, .inl (cI, 24, .inl kd)), (h5, .inl (cI, 24, .inl dp)), (h6, .inl (cI, 24, .inl su)), (h7, .inl (cL, 24, .inr (.inl nm))), (h8, .inr (0, [.ref h9, .ref h10, .ref h11, .ref h12, .int ct2, .int lo2, .int oc2])), (h9, .inl (cI, 24, .inl kd2)), (h10, .inl (cI, 24, .inl dp2)), (h11, .inl (cI, 24, .inl su2)), (h12, .inl (cL, 24, .inr (.inl nm2)))] (va_A [(h0, .inr (5, [.ref h1, .ref h3, .ref h8, .long bn])), (h1, .inr (1, [.ref h2, .int zp])), (h2, .inl (cC, 3000, .inl ch)), (h3, .inr (0, [.ref h4, .ref h5, .ref h6, .ref h7, .int ct, .int lo, .int oc])), (h4, .inl (cI, 24, .inl kd)), (h5, .inl (cI, 24, .inl dp)), (h6, .inl (cI, 24, .inl su)), (h7, .inl (cL, 24, .inr (.inl nm))), (h8, .inr (0, [.ref h9, .ref h10, .ref h11, .ref h12, .int ct2, .int lo2, .int oc2])), (h9, .inl (cI, 24, .inl kd2)), (h10, .inl (cI, 24, .inl dp2)), (h11, .inl (cI, 24, .inl su2)), (h12, .inl (cL, 24, .inr (.inl nm2)))] sz)) (va_A [(h0, .inr (5, [.ref h1, .ref h3, .ref h8, .long bn])), (h1, .inr (1, [.ref h2, .int zp])), (h2, .inl (cC, 3000, .inl ch)), (h3, .inr (0, [.ref h4, .ref h5, .ref h6, .ref h7, .int ct, .int lo, .int oc])), (h4, .inl (cI, 24, .inl kd)), (h5, .inl (cI, 24, .inl dp)), (h6, .inl (cI, 24, .inl su)), (h7, .inl (cL, 24, .inr (.inl nm))), (h8, .inr (0, [.ref h9, .ref h10, .ref h11, .ref h12, .int ct2, .int lo2, .int oc2])), (h9, .inl (cI, 24, .inl kd2)), (h10, .inl (cI, 24, .inl dp2)), (h11, .inl (cI, 24, .inl su2)), (h12, .inl (cL, 24, .inr (.inl nm2)))] sz)) 0 0 (va_A [(h0, .inr (5, [.ref h1, .ref h3, .ref h8, .long bn])), (h1, .inr (1, [.ref h2, .int zp])), (h2, .inl (cC, 3000, .inl ch)), (h3, .inr (0, [.ref h4, .ref h5, .ref h6, .ref h7, .int ct, .int lo, .int oc])), (h4, .inl (cI, 24, .inl kd)), (h5, .inl (cI, 24, .inl dp)), (h6, .inl (cI, 24, .inl su)), (h7, .inl (cL, 24, .inr (.inl nm))), (h8, .inr (0, [.ref h9, .ref h10, .ref h11, .ref h12, .int ct2, .int lo2, .int oc2])), (h9, .inl (cI, 24, .inl kd2)), (h10, .inl (cI, 24, .inl dp2)), (h11, .inl (cI, 24, .inl su2)), (h12, .inl (cL, 24, .inr (.inl nm2)))] sz) := by
  refine Met.ofW (cc := cc_V_poke) (maxL := 3) (ret := (some .boolean)) (by decide) rfl ?_
  intro p e s m args below meth c s₁ B hml hv
  obtain ⟨hargs, hsz, hP, hK, hD0⟩ := hv
  have hx := B.exec
  have hb := B.bytes
  have hr := B.returns
  have hts := atoms_spec (ws := ws_V_poke) B.pre
  have ht : ∀ w ∈ TB_, w.before args s = true := fun w h => hts w (List.mem_cons_of_mem _ h)
  have hown : s.vm.findClass cn_V = some m.cls := findClass_of_methodNamed B.named
  have hlocks := B.notSynchronized
  subst hsz
  have hD := hD0.self (sz := s.heap.size)
  generalize hAe : va_A [(h0, .inr (5, [.ref h1, .ref h3, .ref h8, .long bn])), (h1, .inr (1, [.ref h2, .int zp])), (h2, .inl (cC, 3000, .inl ch)), (h3, .inr (0, [.ref h4, .ref h5, .ref h6, .ref h7, .int ct, .int lo, .int oc])), (h4, .inl (cI, 24, .inl kd)), (h5, .inl (cI, 24, .inl dp)), (h6, .inl (cI, 24, .inl su)), (h7, .inl (cL, 24, .inr (.inl nm))), (h8, .inr (0, [.ref h9, .ref h10, .ref h11, .ref h12, .int ct2, .int lo2, .int oc2])), (h9, .inl (cI, 24, .inl kd2)), (h10, .inl (cI, 24, .inl dp2)), (h11, .inl (cI, 24, .inl su2)), (h12, .inl (cL, 24, .inr (.inl nm2)))] s.heap.size = A at hD ⊢
  have hA : ∀ q : Nat, s.heap.size ≤ q → A q := fun q h => by rw [← hAe]; exact Or.inr h
  have hS : va_S A s.heap s.heap [] := va_S.rf
  have hP : va_P (dC, dI) vwCl [(h0, .inr (5, [.ref h1, .ref h3, .ref h8, .long bn])), (h1, .inr (1, [.ref h2, .int zp])), (h2, .inl (cC, 3000, .inl ch)), (h3, .inr (0, [.ref h4, .ref h5, .ref h6, .ref h7, .int ct, .int lo, .int oc])), (h4, .inl (cI, 24, .inl kd)), (h5, .inl (cI, 24, .inl dp)), (h6, .inl (cI, 24, .inl su)), (h7, .inl (cL, 24, .inr (.inl nm))), (h8, .inr (0, [.ref h9, .ref h10, .ref h11, .ref h12, .int ct2, .int lo2, .int oc2])), (h9, .inl (cI, 24, .inl kd2)), (h10, .inl (cI, 24, .inl dp2)), (h11, .inl (cI, 24, .inl su2)), (h12, .inl (cL, 24, .inr (.inl nm2)))] s.heap := hP
  have hl := lv_entry [.ref h0, .int x1, .int x2] (n := 3) (Nat.le_of_ble_eq_true rfl)
  have he : entryFrame m args 3 = _ := (congrArg (fun a => entryFrame m a 3) hargs).trans (lg_entry_eq m [.ref h0, .int x1, .int x2] 3)
  rw [he]
  generalize (lg_sl [.ref h0, .int x1, .int x2] ++ List.replicate (3 - (lg_sl [.ref h0, .int x1, .int x2]).length) Slot.unset).toArray = ls at hl ⊢
  have hl : lv_has ls 3 [(0, .ref h0), (1, .int x1), (2, .int x2)] := hl
  generalize hQ : MQ below _ args s _ _ _ = Q
  unfold fn_V_poke at hF
  refine lv_iload_n hx hb dd_V_poke_0 rfl (lv_at hl 2 rfl) ?_
  obtain ⟨o_1, ho_1, hF⟩ := jv_bi hF
  refine jv_ci (va_runS (As := [.int x2]) (rest := []) ⟨hx, hb, hml, hown, ht⟩ (c_V_isOfPages l dC dI cI cL cC cZ s.heap.size x2 _ ho_1) (va_cwS 1 ht (gi_S tw_3_2 tw_3_3 tw_1_1 tw_3_4) rfl rfl rfl (by decide +kernel) ⟨Nat.le_of_ble_eq_true rfl, Nat.le_of_ble_eq_true rfl⟩) (jv_ps hK hP hD [] rfl (by decide) rfl) rfl rfl hl.1 rfl (lv_room (Nat.le_of_ble_eq_true rfl)) dd_V_poke_1 ⟨Nat.le_of_ble_eq_true rfl, Nat.le_of_ble_eq_true rfl⟩) ?_
  refine lv_if_eq (tgt := 23) hx hb dd_V_poke_4 (by decide) (fun c_5 => ?_) (fun c_5 => ?_)
  · have hF := jv_t c_5 hF
    refine lv_iconst (v := 0) hx hb dd_V_poke_23 (by decide) ?_
    subst hQ
    obtain rfl := Option.some.inj hF
    exact W.zret (v := 0) hx hb hr rfl (fun t ht hW => ⟨⟨0, (), rfl, rfl, by rw [ht]; exact hP, va_K.moved hW.alike hK, hD⟩, hS.F ht⟩) hS.2.2 dd_V_poke_24
  · have hF := jv_f c_5 hF
    refine lv_aload_n hx hb dd_V_poke_7 rfl (lv_at hl 0 rfl) ?_
    refine va_get (D := (dC, dI)) (ci := 5) (v := .ref h1) (C := cn_V) (T := tt_V) (N := 4) hx hb ht in_V hown hK hP 0 rfl rfl 0 (by decide) (ht _ tw_1_65) (fun _ h9 => h9) rfl dd_V_poke_8 ?_
    refine lv_iload_n hx hb dd_V_poke_11 rfl (lv_at hl 1 rfl) ?_
    refine lv_iload_n hx hb dd_V_poke_12 rfl (lv_at hl 2 rfl) ?_
    obtain ⟨o_13, ho_13, hF⟩ := jv_bi hF
    refine jv_mi (wr := [(h0, .inr (5, [.ref h1, .ref h3, .ref h8, .long bn])), (h3, .inr (0, [.ref h4, .ref h5, .ref h6, .ref h7, .int ct, .int lo, .int oc])), (h4, .inl (cI, 24, .inl kd)), (h5, .inl (cI, 24, .inl dp)), (h6, .inl (cI, 24, .inl su)), (h7, .inl (cL, 24, .inr (.inl nm))), (h8, .inr (0, [.ref h9, .ref h10, .ref h11, .ref h12, .int ct2, .int lo2, .int oc2])), (h9, .inl (cI, 24, .inl kd2)), (h10, .inl (cI, 24, .inl dp2)), (h11, .inl (cI, 24, .inl su2)), (h12, .inl (cL, 24, .inr (.inl nm2)))]) (w1 := [(h1, .inr (1, [.ref h2, .int zp])), (h2, .inl (cC, 3000, .inl o_13.2))]) (va_runV (C := cn_P) (As := [.int x1, .int x2]) (rest := []) ⟨hx, hb, hml, hown, ht⟩ (c_P_replace l dC dI cI cL cC cZ h1 h2 s.heap.size zp ch x1 x2 _ ho_13) (cwV 2 ht (gi_V tw_3_10 tw_3_11 tw_3_12 tw_1_2 tw_3_13) rfl rfl rfl (by decide +kernel) ⟨Nat.le_of_ble_eq_true rfl, Nat.le_of_ble_eq_true rfl⟩) (jv_pv hK hP hD [1, 2] rfl (by decide) rfl (va_recv hK hP (ci := 1) (q0 := 1) rfl rfl)) rfl rfl hl.1 rfl (lv_room (Nat.le_of_ble_eq_true rfl)) dd_V_poke_13 ⟨Nat.le_of_ble_eq_true rfl, Nat.le_of_ble_eq_true rfl⟩) hP hD hS hA [1, 2] [0, 3, 4, 5, 6, 7, 8, 9, 10, 11, 12] rfl rfl (by decide) (by decide) (fun H_6 locs_7 hP hD hS => ?_)
    have hP : va_P (dC, dI) vwCl [(h0, .inr (5, [.ref h1, .ref h3, .ref h8, .long bn])), (h1, .inr (1, [.ref h2, .int zp])), (h2, .inl (cC, 3000, .inl o_13.2)), (h3, .inr (0, [.ref h4, .ref h5, .ref h6, .ref h7, .int ct, .int lo, .int oc])), (h4, .inl (cI, 24, .inl kd)), (h5, .inl (cI, 24, .inl dp)), (h6, .inl (cI, 24, .inl su)), (h7, .inl (cL, 24, .inr (.inl nm))), (h8, .inr (0, [.ref h9, .ref h10, .ref h11, .ref h12, .int ct2, .int lo2, .int oc2])), (h9, .inl (cI, 24, .inl kd2)), (h10, .inl (cI, 24, .inl dp2)), (h11, .inl (cI, 24, .inl su2)), (h12, .inl (cL, 24, .inr (.inl nm2)))] H_6 := hP.sub [0, 11, 12, 1, 2, 3, 4, 5, 6, 7, 8, 9, 10] rfl
    have hD : va_D A [(h0, .inr (5, [.ref h1, .ref h3, .ref h8, .long bn])), (h1, .inr (1, [.ref h2, .int zp])), (h2, .inl (cC, 3000, .inl o_13.2)), (h3, .inr (0, [.ref h4, .ref h5, .ref h6, .ref h7, .int ct, .int lo, .int oc])), (h4, .inl (cI, 24, .inl kd)), (h5, .inl (cI, 24, .inl dp)), (h6, .inl (cI, 24, .inl su)), (h7, .inl (cL, 24, .inr (.inl nm))), (h8, .inr (0, [.ref h9, .ref h10, .ref h11, .ref h12, .int ct2, .int lo2, .int oc2])), (h9, .inl (cI, 24, .inl kd2)), (h10, .inl (cI, 24, .inl dp2)), (h11, .inl (cI, 24, .inl su2)), (h12, .inl (cL, 24, .inr (.inl nm2)))] := hD.sub [0, 11, 12, 1, 2, 3, 4, 5, 6, 7, 8, 9, 10] (by decide) rfl
    refine lv_if_eq (tgt := 23) hx hb dd_V_poke_16 (by decide) (fun c_8 => ?_) (fun c_8 => ?_)
    · have hF := jv_t c_8 hF
      refine lv_iconst (v := 0) hx hb dd_V_poke_23 (by decide) ?_
      subst hQ
      obtain rfl := Option.some.inj hF
      exact W.zret (v := 0) hx hb hr rfl (fun t ht hW => ⟨⟨0, (), rfl, rfl, by rw [ht]; exact hP, va_K.moved hW.alike hK, hD⟩, hS.F ht⟩) hS.2.2 dd_V_poke_24
    · have hF := jv_f c_8 hF
      refine lv_iconst (v := 1) hx hb dd_V_poke_19 (by decide) ?_
      refine lv_goto (tgt := 24) hx hb dd_V_poke_20 (by decide) ?_
      subst hQ
      obtain rfl := Option.some.inj hF
      exact W.zret (v := 1) hx hb hr rfl (fun t ht hW => ⟨⟨1, (), rfl, rfl, by rw [ht]; exact hP, va_K.moved hW.alike hK, hD⟩, hS.F ht⟩) hS.2.2 dd_V_poke_24
set_option maxHeartbeats 40000000 in
set_option maxRecDepth 100000 in
theorem c_V_write (l : Launch) (dC : Nat → ClassId) (dI : Nat → Nat → Nat) (cI cL cC cZ : ClassId) (adK adV : Nat → Nat) (h0 h1 h2 h3 h4 h5 h6 h7 h8 h9 h10 h11 h12 : Nat) (sz : Nat) (bn : Int64) (zp : Int32) (ch : Nat → Int32) (ct : Int32) (lo : Int32) (oc : Int32) (kd : Nat → Int32) (dp : Nat → Int32) (su : Nat → Int32) (nm : Nat → Int64) (ct2 : Int32) (lo2 : Int32) (oc2 : Int32) (kd2 : Nat → Int32) (dp2 : Nat → Int32) (su2 : Nat → Int32) (nm2 : Nat → Int64)  (out : Int32 × Int32 × (Nat → Int32)) (hF : fn_V_write ct lo oc kd dp su nm zp ch = some out) : Met l yy_V_write ws_V_write { frames := 9, cells := 1, slots := 2, locals := 197 } (mS_ adK adV (dC, dI) (tk_ cI cL cC cZ) [(h0, .inr (5, [.ref h1, .ref h3, .ref h8, .long bn])), (h1, .inr (1, [.ref h2, .int zp])), (h2, .inl (cC, 3000, .inl ch)), (h3, .inr (0, [.ref h4, .ref h5, .ref h6, .ref h7, .int ct, .int lo, .int oc])), (h4, .inl (cI, 24, .inl kd)), (h5, .inl (cI, 24, .inl dp)), (h6, .inl (cI, 24, .inl su)), (h7, .inl (cL, 24, .inr (.inl nm))), (h8, .inr (0, [.ref h9, .ref h10, .ref h11, .ref h12, .int ct2, .int lo2, .int oc2])), (h9, .inl (cI, 24, .inl kd2)), (h10, .inl (cI, 24, .inl dp2)), (h11, .inl (cI, 24, .inl su2)), (h12, .inl (cL, 24, .inr (.inl nm2)))] sz [.ref h0]) (va_Qi (fun r (_ : Unit) => r = out.1) (mB_ (dC, dI) (tk_ cI cL cC cZ) [(h0, .inr (5, [.ref h1, .ref h3, .ref h8, .long bn])), (h1, .inr (1, [.ref h2, .int out.2.1])), (h2, .inl (cC, 3000, .inl out.2.2)), (h3, .inr (0, [.ref h4, .ref h5, .ref h6, .ref h7, .int ct, .int lo, .int oc])), (h4, .inl (cI, 24, .inl kd)), (h5, .inl (cI, 24, .inl dp)), (h6, .inl (cI, 24, .inl su)), (h7, .inl (cL, 24, .inr (.inl nm))), (h8, .inr (0, [.ref h9, .ref h10, .ref h11, .ref h12, .int ct2, .int lo2, .int oc2])), (h9, .inl (cI, 24, .inl kd2)), (h10, .inl (cI, 24, .inl dp2)), (h11, .inl (cI, 24, .inl su2)), (h12, .inl (cL, 24, .inr (.inl nm2)))] (va_A [(h0, .inr (5, [.ref h1, .ref h3, .ref h8, .long bn])), (h1, .inr (1, [.ref h2, .int zp])), (h2, .inl (cC, 3000, .inl ch)), (h3, .inr (0, [.ref h4, .ref h5, .ref h6, .ref h7, .int ct, .int lo, .int oc])), (h4, .inl (cI, 24, .inl kd)), (h5, .inl (cI, 24, .inl dp)), (h6, .inl (cI, 24, .inl su)), (h7, .inl (cL, 24, .inr (.inl nm))), (h8, .inr (0, [.ref h9, .ref h10, .ref h11, .ref h12, .int ct2, .int lo2, .int oc2])), (h9, .inl (cI, 24, .inl kd2)), (h10, .inl (cI, 24, .inl dp2)), (h11, .inl (cI, 24, .inl su2)), (h12, .inl (cL, 24, .inr (.inl nm2)))] sz)) (va_A [(h0, .inr (5, [.ref h1, .ref h3, .ref h8, .long bn])), (h1, .inr (1, [.ref h2, .int zp])), (h2, .inl (cC, 3000, .inl ch)), (h3, .inr (0, [.ref h4, .ref h5, .ref h6, .ref h7, .int ct, .int lo, .int oc])), (h4, .inl (cI, 24, .inl kd)), (h5, .inl (cI, 24, .inl dp)), (h6, .inl (cI, 24, .inl su)), (h7, .inl (cL, 24, .inr (.inl nm))), (h8, .inr (0, [.ref h9, .ref h10, .ref h11, .ref h12, .int ct2, .int lo2, .int oc2])), (h9, .inl (cI, 24, .inl kd2)), (h10, .inl (cI, 24, .inl dp2)), (h11, .inl (cI, 24, .inl su2)), (h12, .inl (cL, 24, .inr (.inl nm2)))] sz)) 1 2 (va_A [(h0, .inr (5, [.ref h1, .ref h3, .ref h8, .long bn])), (h1, .inr (1, [.ref h2, .int zp])), (h2, .inl (cC, 3000, .inl ch)), (h3, .inr (0, [.ref h4, .ref h5, .ref h6, .ref h7, .int ct, .int lo, .int oc])), (h4, .inl (cI, 24, .inl kd)), (h5, .inl (cI, 24, .inl dp)), (h6, .inl (cI, 24, .inl su)), (h7, .inl (cL, 24, .inr (.inl nm))), (h8, .inr (0, [.ref h9, .ref h10, .ref h11, .ref h12, .int ct2, .int lo2, .int oc2])), (h9, .inl (cI, 24, .inl kd2)), (h10, .inl (cI, 24, .inl dp2)), (h11, .inl (cI, 24, .inl su2)), (h12, .inl (cL, 24, .inr (.inl nm2)))] sz) := by
  refine Met.ofW (cc := cc_V_write) (maxL := 1) (ret := (some .int)) (by decide) rfl ?_
  intro p e s m args below meth c s₁ B hml hv
  obtain ⟨hargs, hsz, hP, hK, hD0, hV⟩ := hv
  have hx := B.exec
  have hb := B.bytes
  have hr := B.returns
  have hts := atoms_spec (ws := ws_V_write) B.pre
  have ht : ∀ w ∈ TB_, w.before args s = true := fun w h => hts w (List.mem_cons_of_mem _ h)
  have hown : s.vm.findClass cn_V = some m.cls := findClass_of_methodNamed B.named
  have hlocks := B.notSynchronized
  subst hsz
  have hD := hD0.self (sz := s.heap.size)
  generalize hAe : va_A [(h0, .inr (5, [.ref h1, .ref h3, .ref h8, .long bn])), (h1, .inr (1, [.ref h2, .int zp])), (h2, .inl (cC, 3000, .inl ch)), (h3, .inr (0, [.ref h4, .ref h5, .ref h6, .ref h7, .int ct, .int lo, .int oc])), (h4, .inl (cI, 24, .inl kd)), (h5, .inl (cI, 24, .inl dp)), (h6, .inl (cI, 24, .inl su)), (h7, .inl (cL, 24, .inr (.inl nm))), (h8, .inr (0, [.ref h9, .ref h10, .ref h11, .ref h12, .int ct2, .int lo2, .int oc2])), (h9, .inl (cI, 24, .inl kd2)), (h10, .inl (cI, 24, .inl dp2)), (h11, .inl (cI, 24, .inl su2)), (h12, .inl (cL, 24, .inr (.inl nm2)))] s.heap.size = A at hD ⊢ hV
  have hA : ∀ q : Nat, s.heap.size ≤ q → A q := fun q h => by rw [← hAe]; exact Or.inr h
  have hS : va_S A s.heap s.heap [] := va_S.rf
  have hP : va_P (dC, dI) vwCl [(h0, .inr (5, [.ref h1, .ref h3, .ref h8, .long bn])), (h1, .inr (1, [.ref h2, .int zp])), (h2, .inl (cC, 3000, .inl ch)), (h3, .inr (0, [.ref h4, .ref h5, .ref h6, .ref h7, .int ct, .int lo, .int oc])), (h4, .inl (cI, 24, .inl kd)), (h5, .inl (cI, 24, .inl dp)), (h6, .inl (cI, 24, .inl su)), (h7, .inl (cL, 24, .inr (.inl nm))), (h8, .inr (0, [.ref h9, .ref h10, .ref h11, .ref h12, .int ct2, .int lo2, .int oc2])), (h9, .inl (cI, 24, .inl kd2)), (h10, .inl (cI, 24, .inl dp2)), (h11, .inl (cI, 24, .inl su2)), (h12, .inl (cL, 24, .inr (.inl nm2)))] s.heap := hP
  have hl := lv_entry [.ref h0] (n := 1) (Nat.le_of_ble_eq_true rfl)
  have he : entryFrame m args 1 = _ := (congrArg (fun a => entryFrame m a 1) hargs).trans (lg_entry_eq m [.ref h0] 1)
  rw [he]
  generalize (lg_sl [.ref h0] ++ List.replicate (1 - (lg_sl [.ref h0]).length) Slot.unset).toArray = ls at hl ⊢
  have hl : lv_has ls 1 [(0, .ref h0)] := hl
  generalize hQ : MQ below _ args s _ _ _ = Q
  unfold fn_V_write at hF
  refine va_new (ci := 2) (fs := [.null, .null]) (C := cn_W) (T := tt_W) (N := 2) hx hb ht in_W ty_W tyok_W hown (ht _ tw_1_172) (ht _ tw_1_173) (ht _ tw_1_6) hK hP hD hS hA rfl (fun j hj => by rcases (show j = 0 ∨ j = 1 by omega) with rfl | rfl <;> rfl) (Nat.le_of_ble_eq_true rfl) (Nat.le_of_ble_eq_true rfl) dd_V_write_0 (fun q_7 H_8 hP hD hS => ?_)
  have hP : va_P (dC, dI) vwCl [(h0, .inr (5, [.ref h1, .ref h3, .ref h8, .long bn])), (h1, .inr (1, [.ref h2, .int zp])), (h2, .inl (cC, 3000, .inl ch)), (h3, .inr (0, [.ref h4, .ref h5, .ref h6, .ref h7, .int ct, .int lo, .int oc])), (h4, .inl (cI, 24, .inl kd)), (h5, .inl (cI, 24, .inl dp)), (h6, .inl (cI, 24, .inl su)), (h7, .inl (cL, 24, .inr (.inl nm))), (h8, .inr (0, [.ref h9, .ref h10, .ref h11, .ref h12, .int ct2, .int lo2, .int oc2])), (h9, .inl (cI, 24, .inl kd2)), (h10, .inl (cI, 24, .inl dp2)), (h11, .inl (cI, 24, .inl su2)), (h12, .inl (cL, 24, .inr (.inl nm2))), (q_7, .inr (2, [.null, .null]))] H_8 := hP
  have hD : va_D A [(h0, .inr (5, [.ref h1, .ref h3, .ref h8, .long bn])), (h1, .inr (1, [.ref h2, .int zp])), (h2, .inl (cC, 3000, .inl ch)), (h3, .inr (0, [.ref h4, .ref h5, .ref h6, .ref h7, .int ct, .int lo, .int oc])), (h4, .inl (cI, 24, .inl kd)), (h5, .inl (cI, 24, .inl dp)), (h6, .inl (cI, 24, .inl su)), (h7, .inl (cL, 24, .inr (.inl nm))), (h8, .inr (0, [.ref h9, .ref h10, .ref h11, .ref h12, .int ct2, .int lo2, .int oc2])), (h9, .inl (cI, 24, .inl kd2)), (h10, .inl (cI, 24, .inl dp2)), (h11, .inl (cI, 24, .inl su2)), (h12, .inl (cL, 24, .inr (.inl nm2))), (q_7, .inr (2, [.null, .null]))] := hD
  refine lv_dup hx hb dd_V_write_3 rfl ?_
  refine lv_aload_n hx hb dd_V_write_4 rfl (lv_at hl 0 rfl) ?_
  refine va_get (D := (dC, dI)) (ci := 5) (v := .ref h1) (C := cn_V) (T := tt_V) (N := 4) hx hb ht in_V hown hK hP 0 rfl rfl 0 (by decide) (ht _ tw_1_65) (fun _ h9 => h9) rfl dd_V_write_5 ?_
  refine lv_aload_n hx hb dd_V_write_8 rfl (lv_at hl 0 rfl) ?_
  refine va_get (D := (dC, dI)) (ci := 5) (v := .ref h3) (C := cn_V) (T := tt_V) (N := 4) hx hb ht in_V hown hK hP 0 rfl rfl 1 (by decide) (ht _ tw_1_66) (fun _ h9 => h9) rfl dd_V_write_9 ?_
  obtain ⟨o_12, ho_12, hF⟩ := jv_bi hF
  refine jv_mv (wr := [(h0, .inr (5, [.ref h1, .ref h3, .ref h8, .long bn])), (h1, .inr (1, [.ref h2, .int zp])), (h2, .inl (cC, 3000, .inl ch)), (h3, .inr (0, [.ref h4, .ref h5, .ref h6, .ref h7, .int ct, .int lo, .int oc])), (h4, .inl (cI, 24, .inl kd)), (h5, .inl (cI, 24, .inl dp)), (h6, .inl (cI, 24, .inl su)), (h7, .inl (cL, 24, .inr (.inl nm))), (h8, .inr (0, [.ref h9, .ref h10, .ref h11, .ref h12, .int ct2, .int lo2, .int oc2])), (h9, .inl (cI, 24, .inl kd2)), (h10, .inl (cI, 24, .inl dp2)), (h11, .inl (cI, 24, .inl su2)), (h12, .inl (cL, 24, .inr (.inl nm2)))]) (w1 := [(q_7, .inr (2, [.ref h1, .ref h3]))]) (va_runI (As := [.ref h1, .ref h3]) (rest := [.ref q_7]) ⟨hx, hb, hml, hown, ht⟩ (c_W_init l dC dI cI cL cC cZ q_7 h1 h3 H_8.size _ ho_12) (cwI 2 ht (gi_I tw_1_176) rfl rfl rfl (ht _ tw_1_6) (ht _ tw_1_174) (ht _ tw_1_175) rfl (by decide +kernel) ⟨Nat.le_of_ble_eq_true rfl, Nat.le_of_ble_eq_true rfl⟩) (jv_ps hK hP hD [13] rfl (by decide) rfl) rfl rfl hl.1 rfl (lv_room (Nat.le_of_ble_eq_true rfl)) dd_V_write_12 ⟨Nat.le_of_ble_eq_true rfl, Nat.le_of_ble_eq_true rfl⟩) hP hD hS hA [13] [0, 1, 2, 3, 4, 5, 6, 7, 8, 9, 10, 11, 12] rfl rfl (by decide) (by decide) (fun H_9 locs_10 hP hD hS => ?_)
  have hP : va_P (dC, dI) vwCl [(h0, .inr (5, [.ref h1, .ref h3, .ref h8, .long bn])), (h1, .inr (1, [.ref h2, .int zp])), (h2, .inl (cC, 3000, .inl ch)), (h3, .inr (0, [.ref h4, .ref h5, .ref h6, .ref h7, .int ct, .int lo, .int oc])), (h4, .inl (cI, 24, .inl kd)), (h5, .inl (cI, 24, .inl dp)), (h6, .inl (cI, 24, .inl su)), (h7, .inl (cL, 24, .inr (.inl nm))), (h8, .inr (0, [.ref h9, .ref h10, .ref h11, .ref h12, .int ct2, .int lo2, .int oc2])), (h9, .inl (cI, 24, .inl kd2)), (h10, .inl (cI, 24, .inl dp2)), (h11, .inl (cI, 24, .inl su2)), (h12, .inl (cL, 24, .inr (.inl nm2))), (q_7, .inr (2, [.ref h1, .ref h3]))] H_9 := hP.sub [0, 1, 2, 3, 4, 5, 6, 7, 8, 9, 10, 11, 12, 13] rfl
  have hD : va_D A [(h0, .inr (5, [.ref h1, .ref h3, .ref h8, .long bn])), (h1, .inr (1, [.ref h2, .int zp])), (h2, .inl (cC, 3000, .inl ch)), (h3, .inr (0, [.ref h4, .ref h5, .ref h6, .ref h7, .int ct, .int lo, .int oc])), (h4, .inl (cI, 24, .inl kd)), (h5, .inl (cI, 24, .inl dp)), (h6, .inl (cI, 24, .inl su)), (h7, .inl (cL, 24, .inr (.inl nm))), (h8, .inr (0, [.ref h9, .ref h10, .ref h11, .ref h12, .int ct2, .int lo2, .int oc2])), (h9, .inl (cI, 24, .inl kd2)), (h10, .inl (cI, 24, .inl dp2)), (h11, .inl (cI, 24, .inl su2)), (h12, .inl (cL, 24, .inr (.inl nm2))), (q_7, .inr (2, [.ref h1, .ref h3]))] := hD.sub [0, 1, 2, 3, 4, 5, 6, 7, 8, 9, 10, 11, 12, 13] (by decide) rfl
  obtain ⟨o_15, ho_15, hF⟩ := jv_bi hF
  refine jv_mv (wr := [(h0, .inr (5, [.ref h1, .ref h3, .ref h8, .long bn])), (h8, .inr (0, [.ref h9, .ref h10, .ref h11, .ref h12, .int ct2, .int lo2, .int oc2])), (h9, .inl (cI, 24, .inl kd2)), (h10, .inl (cI, 24, .inl dp2)), (h11, .inl (cI, 24, .inl su2)), (h12, .inl (cL, 24, .inr (.inl nm2)))]) (w1 := [(q_7, .inr (2, [.ref h1, .ref h3])), (h1, .inr (1, [.ref h2, .int o_15.1])), (h2, .inl (cC, 3000, .inl o_15.2)), (h3, .inr (0, [.ref h4, .ref h5, .ref h6, .ref h7, .int ct, .int lo, .int oc])), (h4, .inl (cI, 24, .inl kd)), (h5, .inl (cI, 24, .inl dp)), (h6, .inl (cI, 24, .inl su)), (h7, .inl (cL, 24, .inr (.inl nm)))]) (va_runV (C := cn_W) (As := []) (rest := []) ⟨hx, hb, hml, hown, ht⟩ (c_W_writeAll l dC dI cI cL cC cZ adK adV q_7 h1 h2 h3 h4 h5 h6 h7 H_9.size zp ch ct lo oc kd dp su nm _ ho_15) (cwV 0 ht (gi_V tw_1_185 tw_1_186 tw_1_187 tw_1_6 tw_1_188) rfl rfl rfl (by decide +kernel) ⟨Nat.le_of_ble_eq_true rfl, Nat.le_of_ble_eq_true rfl⟩) (jv_sv hK hP hD hS hA hV [13, 1, 2, 3, 4, 5, 6, 7] rfl (by decide) rfl (va_recv hK hP (ci := 2) (q0 := 13) rfl rfl)) rfl rfl hl.1 rfl (lv_room (Nat.le_of_ble_eq_true rfl)) dd_V_write_15 ⟨Nat.le_of_ble_eq_true rfl, Nat.le_of_ble_eq_true rfl⟩) hP hD hS hA [13, 1, 2, 3, 4, 5, 6, 7] [0, 8, 9, 10, 11, 12] rfl rfl (by decide) (by decide) (fun H_11 locs_12 hP hD hS => ?_)
  have hP : va_P (dC, dI) vwCl [(h0, .inr (5, [.ref h1, .ref h3, .ref h8, .long bn])), (h1, .inr (1, [.ref h2, .int o_15.1])), (h2, .inl (cC, 3000, .inl o_15.2)), (h3, .inr (0, [.ref h4, .ref h5, .ref h6, .ref h7, .int ct, .int lo, .int oc])), (h4, .inl (cI, 24, .inl kd)), (h5, .inl (cI, 24, .inl dp)), (h6, .inl (cI, 24, .inl su)), (h7, .inl (cL, 24, .inr (.inl nm))), (h8, .inr (0, [.ref h9, .ref h10, .ref h11, .ref h12, .int ct2, .int lo2, .int oc2])), (h9, .inl (cI, 24, .inl kd2)), (h10, .inl (cI, 24, .inl dp2)), (h11, .inl (cI, 24, .inl su2)), (h12, .inl (cL, 24, .inr (.inl nm2))), (q_7, .inr (2, [.ref h1, .ref h3]))] H_11 := hP.sub [0, 7, 8, 9, 10, 11, 12, 13, 1, 2, 3, 4, 5, 6] rfl
  have hD : va_D A [(h0, .inr (5, [.ref h1, .ref h3, .ref h8, .long bn])), (h1, .inr (1, [.ref h2, .int o_15.1])), (h2, .inl (cC, 3000, .inl o_15.2)), (h3, .inr (0, [.ref h4, .ref h5, .ref h6, .ref h7, .int ct, .int lo, .int oc])), (h4, .inl (cI, 24, .inl kd)), (h5, .inl (cI, 24, .inl dp)), (h6, .inl (cI, 24, .inl su)), (h7, .inl (cL, 24, .inr (.inl nm))), (h8, .inr (0, [.ref h9, .ref h10, .ref h11, .ref h12, .int ct2, .int lo2, .int oc2])), (h9, .inl (cI, 24, .inl kd2)), (h10, .inl (cI, 24, .inl dp2)), (h11, .inl (cI, 24, .inl su2)), (h12, .inl (cL, 24, .inr (.inl nm2))), (q_7, .inr (2, [.ref h1, .ref h3]))] := hD.sub [0, 7, 8, 9, 10, 11, 12, 13, 1, 2, 3, 4, 5, 6] (by decide) rfl
  refine lv_aload_n hx hb dd_V_write_18 rfl (lv_at hl 0 rfl) ?_
  refine va_get (D := (dC, dI)) (ci := 5) (v := .ref h1) (C := cn_V) (T := tt_V) (N := 4) hx hb ht in_V hown hK hP 0 rfl rfl 0 (by decide) (ht _ tw_1_65) (fun _ h9 => h9) rfl dd_V_write_19 ?_
  obtain ⟨o_22, ho_22, hF⟩ := jv_bi hF
  refine jv_ci (va_runV (C := cn_P) (As := []) (rest := []) ⟨hx, hb, hml, hown, ht⟩ (c_P_size l dC dI cI cL cC cZ h1 h2 H_11.size o_15.1 o_15.2 _ ho_22) (cwV 0 ht (gi_V tw_2_98 tw_2_99 tw_2_100 tw_1_2 tw_2_101) rfl rfl rfl (by decide +kernel) ⟨Nat.le_of_ble_eq_true rfl, Nat.le_of_ble_eq_true rfl⟩) (jv_pv hK hP hD [1, 2] rfl (by decide) rfl (va_recv hK hP (ci := 1) (q0 := 1) rfl rfl)) rfl rfl hl.1 rfl (lv_room (Nat.le_of_ble_eq_true rfl)) dd_V_write_22 ⟨Nat.le_of_ble_eq_true rfl, Nat.le_of_ble_eq_true rfl⟩) ?_
  subst hQ
  obtain rfl := Option.some.inj hF
  have hP := hP.sub (ws' := [(h0, .inr (5, [.ref h1, .ref h3, .ref h8, .long bn])), (h1, .inr (1, [.ref h2, .int o_15.1])), (h2, .inl (cC, 3000, .inl o_15.2)), (h3, .inr (0, [.ref h4, .ref h5, .ref h6, .ref h7, .int ct, .int lo, .int oc])), (h4, .inl (cI, 24, .inl kd)), (h5, .inl (cI, 24, .inl dp)), (h6, .inl (cI, 24, .inl su)), (h7, .inl (cL, 24, .inr (.inl nm))), (h8, .inr (0, [.ref h9, .ref h10, .ref h11, .ref h12, .int ct2, .int lo2, .int oc2])), (h9, .inl (cI, 24, .inl kd2)), (h10, .inl (cI, 24, .inl dp2)), (h11, .inl (cI, 24, .inl su2)), (h12, .inl (cL, 24, .inr (.inl nm2)))]) [0, 1, 2, 3, 4, 5, 6, 7, 8, 9, 10, 11, 12] rfl
  have hD := hD.sub (ws' := [(h0, .inr (5, [.ref h1, .ref h3, .ref h8, .long bn])), (h1, .inr (1, [.ref h2, .int o_15.1])), (h2, .inl (cC, 3000, .inl o_15.2)), (h3, .inr (0, [.ref h4, .ref h5, .ref h6, .ref h7, .int ct, .int lo, .int oc])), (h4, .inl (cI, 24, .inl kd)), (h5, .inl (cI, 24, .inl dp)), (h6, .inl (cI, 24, .inl su)), (h7, .inl (cL, 24, .inr (.inl nm))), (h8, .inr (0, [.ref h9, .ref h10, .ref h11, .ref h12, .int ct2, .int lo2, .int oc2])), (h9, .inl (cI, 24, .inl kd2)), (h10, .inl (cI, 24, .inl dp2)), (h11, .inl (cI, 24, .inl su2)), (h12, .inl (cL, 24, .inr (.inl nm2)))]) [0, 1, 2, 3, 4, 5, 6, 7, 8, 9, 10, 11, 12] (by decide) rfl
  exact W.iret (v := o_22) hx hb hr (fun t ht hW => ⟨⟨o_22, (), rfl, rfl, by rw [ht]; exact hP, va_K.moved hW.alike hK, hD⟩, hS.F ht⟩) hS.2.2 dd_V_write_25
set_option maxHeartbeats 40000000 in
set_option maxRecDepth 100000 in
theorem c_V_read (l : Launch) (dC : Nat → ClassId) (dI : Nat → Nat → Nat) (cI cL cC cZ : ClassId) (adK adV : Nat → Nat) (h0 h1 h2 h3 h4 h5 h6 h7 h8 h9 h10 h11 h12 : Nat) (sz : Nat) (bn : Int64) (zp : Int32) (ch : Nat → Int32) (ct : Int32) (lo : Int32) (oc : Int32) (kd : Nat → Int32) (dp : Nat → Int32) (su : Nat → Int32) (nm : Nat → Int64) (ct2 : Int32) (lo2 : Int32) (oc2 : Int32) (kd2 : Nat → Int32) (dp2 : Nat → Int32) (su2 : Nat → Int32) (nm2 : Nat → Int64)  (out : Int32 × Int32 × Int32 × Int32 × (Nat → Int32) × (Nat → Int32) × (Nat → Int32) × (Nat → Int64) × Int32 × Int32 × Int32 × (Nat → Int32) × (Nat → Int32) × (Nat → Int32) × (Nat → Int64)) (hF : fn_V_read zp ch ct lo oc kd dp su nm ct2 lo2 oc2 kd2 dp2 su2 nm2 = some out) : Met l yy_V_read ws_V_read { frames := 9, cells := 2, slots := 7, locals := 196 } (mS_ adK adV (dC, dI) (tk_ cI cL cC cZ) [(h0, .inr (5, [.ref h1, .ref h3, .ref h8, .long bn])), (h1, .inr (1, [.ref h2, .int zp])), (h2, .inl (cC, 3000, .inl ch)), (h3, .inr (0, [.ref h4, .ref h5, .ref h6, .ref h7, .int ct, .int lo, .int oc])), (h4, .inl (cI, 24, .inl kd)), (h5, .inl (cI, 24, .inl dp)), (h6, .inl (cI, 24, .inl su)), (h7, .inl (cL, 24, .inr (.inl nm))), (h8, .inr (0, [.ref h9, .ref h10, .ref h11, .ref h12, .int ct2, .int lo2, .int oc2])), (h9, .inl (cI, 24, .inl kd2)), (h10, .inl (cI, 24, .inl dp2)), (h11, .inl (cI, 24, .inl su2)), (h12, .inl (cL, 24, .inr (.inl nm2)))] sz [.ref h0]) (va_Qi (fun r (_ : Nat × Nat × Nat × Nat × Nat × Nat × Nat × Nat × Nat × Nat × Nat × Nat) => r = out.1) (mU_ (dC, dI) (tk_ cI cL cC cZ) (fun u : Nat × Nat × Nat × Nat × Nat × Nat × Nat × Nat × Nat × Nat × Nat × Nat => [(h0, .inr (5, [.ref u.1, .ref u.2.2.1, .ref u.2.2.2.2.2.2.2.1, .long bn])), (u.1, .inr (1, [.ref u.2.1, .int zp])), (u.2.1, .inl (cC, 3000, .inl ch)), (u.2.2.1, .inr (0, [.ref u.2.2.2.1, .ref u.2.2.2.2.1, .ref u.2.2.2.2.2.1, .ref u.2.2.2.2.2.2.1, .int out.2.1, .int out.2.2.1, .int out.2.2.2.1])), (u.2.2.2.1, .inl (cI, 24, .inl out.2.2.2.2.1)), (u.2.2.2.2.1, .inl (cI, 24, .inl out.2.2.2.2.2.1)), (u.2.2.2.2.2.1, .inl (cI, 24, .inl out.2.2.2.2.2.2.1)), (u.2.2.2.2.2.2.1, .inl (cL, 24, .inr (.inl out.2.2.2.2.2.2.2.1))), (u.2.2.2.2.2.2.2.1, .inr (0, [.ref u.2.2.2.2.2.2.2.2.1, .ref u.2.2.2.2.2.2.2.2.2.1, .ref u.2.2.2.2.2.2.2.2.2.2.1, .ref u.2.2.2.2.2.2.2.2.2.2.2, .int out.2.2.2.2.2.2.2.2.1, .int out.2.2.2.2.2.2.2.2.2.1, .int out.2.2.2.2.2.2.2.2.2.2.1])), (u.2.2.2.2.2.2.2.2.1, .inl (cI, 24, .inl out.2.2.2.2.2.2.2.2.2.2.2.1)), (u.2.2.2.2.2.2.2.2.2.1, .inl (cI, 24, .inl out.2.2.2.2.2.2.2.2.2.2.2.2.1)), (u.2.2.2.2.2.2.2.2.2.2.1, .inl (cI, 24, .inl out.2.2.2.2.2.2.2.2.2.2.2.2.2.1)), (u.2.2.2.2.2.2.2.2.2.2.2, .inl (cL, 24, .inr (.inl out.2.2.2.2.2.2.2.2.2.2.2.2.2.2)))]) (va_A [(h0, .inr (5, [.ref h1, .ref h3, .ref h8, .long bn])), (h1, .inr (1, [.ref h2, .int zp])), (h2, .inl (cC, 3000, .inl ch)), (h3, .inr (0, [.ref h4, .ref h5, .ref h6, .ref h7, .int ct, .int lo, .int oc])), (h4, .inl (cI, 24, .inl kd)), (h5, .inl (cI, 24, .inl dp)), (h6, .inl (cI, 24, .inl su)), (h7, .inl (cL, 24, .inr (.inl nm))), (h8, .inr (0, [.ref h9, .ref h10, .ref h11, .ref h12, .int ct2, .int lo2, .int oc2])), (h9, .inl (cI, 24, .inl kd2)), (h10, .inl (cI, 24, .inl dp2)), (h11, .inl (cI, 24, .inl su2)), (h12, .inl (cL, 24, .inr (.inl nm2)))] sz)) (va_A [(h0, .inr (5, [.ref h1, .ref h3, .ref h8, .long bn])), (h1, .inr (1, [.ref h2, .int zp])), (h2, .inl (cC, 3000, .inl ch)), (h3, .inr (0, [.ref h4, .ref h5, .ref h6, .ref h7, .int ct, .int lo, .int oc])), (h4, .inl (cI, 24, .inl kd)), (h5, .inl (cI, 24, .inl dp)), (h6, .inl (cI, 24, .inl su)), (h7, .inl (cL, 24, .inr (.inl nm))), (h8, .inr (0, [.ref h9, .ref h10, .ref h11, .ref h12, .int ct2, .int lo2, .int oc2])), (h9, .inl (cI, 24, .inl kd2)), (h10, .inl (cI, 24, .inl dp2)), (h11, .inl (cI, 24, .inl su2)), (h12, .inl (cL, 24, .inr (.inl nm2)))] sz)) 2 7 (va_A [(h0, .inr (5, [.ref h1, .ref h3, .ref h8, .long bn])), (h1, .inr (1, [.ref h2, .int zp])), (h2, .inl (cC, 3000, .inl ch)), (h3, .inr (0, [.ref h4, .ref h5, .ref h6, .ref h7, .int ct, .int lo, .int oc])), (h4, .inl (cI, 24, .inl kd)), (h5, .inl (cI, 24, .inl dp)), (h6, .inl (cI, 24, .inl su)), (h7, .inl (cL, 24, .inr (.inl nm))), (h8, .inr (0, [.ref h9, .ref h10, .ref h11, .ref h12, .int ct2, .int lo2, .int oc2])), (h9, .inl (cI, 24, .inl kd2)), (h10, .inl (cI, 24, .inl dp2)), (h11, .inl (cI, 24, .inl su2)), (h12, .inl (cL, 24, .inr (.inl nm2)))] sz) := by
  refine Met.ofW (cc := cc_V_read) (maxL := 3) (ret := (some .int)) (by decide) rfl ?_
  intro p e s m args below meth c s₁ B hml hv
  obtain ⟨hargs, hsz, hP, hK, hD0, hV⟩ := hv
  have hx := B.exec
  have hb := B.bytes
  have hr := B.returns
  have hts := atoms_spec (ws := ws_V_read) B.pre
  have ht : ∀ w ∈ TB_, w.before args s = true := fun w h => hts w (List.mem_cons_of_mem _ h)
  have hown : s.vm.findClass cn_V = some m.cls := findClass_of_methodNamed B.named
  have hlocks := B.notSynchronized
  subst hsz
  have hD := hD0.self (sz := s.heap.size)
  generalize hAe : va_A [(h0, .inr (5, [.ref h1, .ref h3, .ref h8, .long bn])), (h1, .inr (1, [.ref h2, .int zp])), (h2, .inl (cC, 3000, .inl ch)), (h3, .inr (0, [.ref h4, .ref h5, .ref h6, .ref h7, .int ct, .int lo, .int oc])), (h4, .inl (cI, 24, .inl kd)), (h5, .inl (cI, 24, .inl dp)), (h6, .inl (cI, 24, .inl su)), (h7, .inl (cL, 24, .inr (.inl nm))), (h8, .inr (0, [.ref h9, .ref h10, .ref h11, .ref h12, .int ct2, .int lo2, .int oc2])), (h9, .inl (cI, 24, .inl kd2)), (h10, .inl (cI, 24, .inl dp2)), (h11, .inl (cI, 24, .inl su2)), (h12, .inl (cL, 24, .inr (.inl nm2)))] s.heap.size = A at hD ⊢ hV
  have hA : ∀ q : Nat, s.heap.size ≤ q → A q := fun q h => by rw [← hAe]; exact Or.inr h
  have hS : va_S A s.heap s.heap [] := va_S.rf
  have hP : va_P (dC, dI) vwCl [(h0, .inr (5, [.ref h1, .ref h3, .ref h8, .long bn])), (h1, .inr (1, [.ref h2, .int zp])), (h2, .inl (cC, 3000, .inl ch)), (h3, .inr (0, [.ref h4, .ref h5, .ref h6, .ref h7, .int ct, .int lo, .int oc])), (h4, .inl (cI, 24, .inl kd)), (h5, .inl (cI, 24, .inl dp)), (h6, .inl (cI, 24, .inl su)), (h7, .inl (cL, 24, .inr (.inl nm))), (h8, .inr (0, [.ref h9, .ref h10, .ref h11, .ref h12, .int ct2, .int lo2, .int oc2])), (h9, .inl (cI, 24, .inl kd2)), (h10, .inl (cI, 24, .inl dp2)), (h11, .inl (cI, 24, .inl su2)), (h12, .inl (cL, 24, .inr (.inl nm2)))] s.heap := hP
  have hl := lv_entry [.ref h0] (n := 3) (Nat.le_of_ble_eq_true rfl)
  have he : entryFrame m args 3 = _ := (congrArg (fun a => entryFrame m a 3) hargs).trans (lg_entry_eq m [.ref h0] 3)
  rw [he]
  generalize (lg_sl [.ref h0] ++ List.replicate (3 - (lg_sl [.ref h0]).length) Slot.unset).toArray = ls at hl ⊢
  have hl : lv_has ls 3 [(0, .ref h0)] := hl
  generalize hQ : MQ below _ args s _ _ _ = Q
  unfold fn_V_read at hF
  refine va_new (ci := 4) (fs := [.null, .null, .int 0]) (C := cn_E) (T := tt_E) (N := 3) hx hb ht in_E ty_E tyok_E hown (ht _ tw_2_107) (ht _ tw_2_108) (ht _ tw_1_11) hK hP hD hS hA rfl (fun j hj => by rcases (show j = 0 ∨ j = 1 ∨ j = 2 by omega) with rfl | rfl | rfl <;> rfl) (Nat.le_of_ble_eq_true rfl) (Nat.le_of_ble_eq_true rfl) dd_V_read_0 (fun q_16 H_17 hP hD hS => ?_)
  have hP : va_P (dC, dI) vwCl [(h0, .inr (5, [.ref h1, .ref h3, .ref h8, .long bn])), (h1, .inr (1, [.ref h2, .int zp])), (h2, .inl (cC, 3000, .inl ch)), (h3, .inr (0, [.ref h4, .ref h5, .ref h6, .ref h7, .int ct, .int lo, .int oc])), (h4, .inl (cI, 24, .inl kd)), (h5, .inl (cI, 24, .inl dp)), (h6, .inl (cI, 24, .inl su)), (h7, .inl (cL, 24, .inr (.inl nm))), (h8, .inr (0, [.ref h9, .ref h10, .ref h11, .ref h12, .int ct2, .int lo2, .int oc2])), (h9, .inl (cI, 24, .inl kd2)), (h10, .inl (cI, 24, .inl dp2)), (h11, .inl (cI, 24, .inl su2)), (h12, .inl (cL, 24, .inr (.inl nm2))), (q_16, .inr (4, [.null, .null, .int 0]))] H_17 := hP
  have hD : va_D A [(h0, .inr (5, [.ref h1, .ref h3, .ref h8, .long bn])), (h1, .inr (1, [.ref h2, .int zp])), (h2, .inl (cC, 3000, .inl ch)), (h3, .inr (0, [.ref h4, .ref h5, .ref h6, .ref h7, .int ct, .int lo, .int oc])), (h4, .inl (cI, 24, .inl kd)), (h5, .inl (cI, 24, .inl dp)), (h6, .inl (cI, 24, .inl su)), (h7, .inl (cL, 24, .inr (.inl nm))), (h8, .inr (0, [.ref h9, .ref h10, .ref h11, .ref h12, .int ct2, .int lo2, .int oc2])), (h9, .inl (cI, 24, .inl kd2)), (h10, .inl (cI, 24, .inl dp2)), (h11, .inl (cI, 24, .inl su2)), (h12, .inl (cL, 24, .inr (.inl nm2))), (q_16, .inr (4, [.null, .null, .int 0]))] := hD
  refine lv_dup hx hb dd_V_read_3 rfl ?_
  refine lv_aload_n hx hb dd_V_read_4 rfl (lv_at hl 0 rfl) ?_
  refine va_get (D := (dC, dI)) (ci := 5) (v := .ref h1) (C := cn_V) (T := tt_V) (N := 4) hx hb ht in_V hown hK hP 0 rfl rfl 0 (by decide) (ht _ tw_1_65) (fun _ h9 => h9) rfl dd_V_read_5 ?_
  obtain ⟨o_8, ho_8, hF⟩ := jv_bi hF
  refine jv_mr (wr := [(h0, .inr (5, [.ref h1, .ref h3, .ref h8, .long bn])), (h3, .inr (0, [.ref h4, .ref h5, .ref h6, .ref h7, .int ct, .int lo, .int oc])), (h4, .inl (cI, 24, .inl kd)), (h5, .inl (cI, 24, .inl dp)), (h6, .inl (cI, 24, .inl su)), (h7, .inl (cL, 24, .inr (.inl nm))), (h8, .inr (0, [.ref h9, .ref h10, .ref h11, .ref h12, .int ct2, .int lo2, .int oc2])), (h9, .inl (cI, 24, .inl kd2)), (h10, .inl (cI, 24, .inl dp2)), (h11, .inl (cI, 24, .inl su2)), (h12, .inl (cL, 24, .inr (.inl nm2))), (q_16, .inr (4, [.null, .null, .int 0]))]) (wz := fun z_21 => [(h1, .inr (1, [.ref h2, .int zp])), (h2, .inl (cC, 3000, .inl ch)), (z_21, .inr (3, [.ref h2, .int o_8.1, .int o_8.2.1, .int o_8.2.2]))]) (va_runV (C := cn_P) (As := []) (rest := [.ref q_16, .ref q_16]) ⟨hx, hb, hml, hown, ht⟩ (c_P_cursor l dC dI cI cL cC cZ h1 h2 H_17.size zp ch _ ho_8) (cwV 0 ht (gi_V tw_2_109 tw_2_110 tw_2_111 tw_1_2 tw_2_112) rfl rfl rfl (by decide +kernel) ⟨Nat.le_of_ble_eq_true rfl, Nat.le_of_ble_eq_true rfl⟩) (jv_pv hK hP hD [1, 2] rfl (by decide) rfl (va_recv hK hP (ci := 1) (q0 := 1) rfl rfl)) rfl rfl hl.1 rfl (lv_room (Nat.le_of_ble_eq_true rfl)) dd_V_read_8 ⟨Nat.le_of_ble_eq_true rfl, Nat.le_of_ble_eq_true rfl⟩) hP hD hS hA [1, 2] [0, 3, 4, 5, 6, 7, 8, 9, 10, 11, 12, 13] rfl rfl (by decide) (by decide) (fun q_18 H_19 locs_20 hP hD hS => ?_)
  have hP : va_P (dC, dI) vwCl [(h0, .inr (5, [.ref h1, .ref h3, .ref h8, .long bn])), (h1, .inr (1, [.ref h2, .int zp])), (h2, .inl (cC, 3000, .inl ch)), (h3, .inr (0, [.ref h4, .ref h5, .ref h6, .ref h7, .int ct, .int lo, .int oc])), (h4, .inl (cI, 24, .inl kd)), (h5, .inl (cI, 24, .inl dp)), (h6, .inl (cI, 24, .inl su)), (h7, .inl (cL, 24, .inr (.inl nm))), (h8, .inr (0, [.ref h9, .ref h10, .ref h11, .ref h12, .int ct2, .int lo2, .int oc2])), (h9, .inl (cI, 24, .inl kd2)), (h10, .inl (cI, 24, .inl dp2)), (h11, .inl (cI, 24, .inl su2)), (h12, .inl (cL, 24, .inr (.inl nm2))), (q_16, .inr (4, [.null, .null, .int 0])), (q_18, .inr (3, [.ref h2, .int o_8.1, .int o_8.2.1, .int o_8.2.2]))] H_19 := hP.sub [0, 12, 13, 1, 2, 3, 4, 5, 6, 7, 8, 9, 10, 11, 14] rfl
  have hD : va_D A [(h0, .inr (5, [.ref h1, .ref h3, .ref h8, .long bn])), (h1, .inr (1, [.ref h2, .int zp])), (h2, .inl (cC, 3000, .inl ch)), (h3, .inr (0, [.ref h4, .ref h5, .ref h6, .ref h7, .int ct, .int lo, .int oc])), (h4, .inl (cI, 24, .inl kd)), (h5, .inl (cI, 24, .inl dp)), (h6, .inl (cI, 24, .inl su)), (h7, .inl (cL, 24, .inr (.inl nm))), (h8, .inr (0, [.ref h9, .ref h10, .ref h11, .ref h12, .int ct2, .int lo2, .int oc2])), (h9, .inl (cI, 24, .inl kd2)), (h10, .inl (cI, 24, .inl dp2)), (h11, .inl (cI, 24, .inl su2)), (h12, .inl (cL, 24, .inr (.inl nm2))), (q_16, .inr (4, [.null, .null, .int 0])), (q_18, .inr (3, [.ref h2, .int o_8.1, .int o_8.2.1, .int o_8.2.2]))] := hD.sub [0, 12, 13, 1, 2, 3, 4, 5, 6, 7, 8, 9, 10, 11, 14] (by decide) rfl
  refine lv_aload_n hx hb dd_V_read_11 rfl (lv_at hl 0 rfl) ?_
  refine va_get (D := (dC, dI)) (ci := 5) (v := .ref h8) (C := cn_V) (T := tt_V) (N := 4) hx hb ht in_V hown hK hP 0 rfl rfl 2 (by decide) (ht _ tw_1_67) (fun _ h9 => h9) rfl dd_V_read_12 ?_
  obtain ⟨o_15, ho_15, hF⟩ := jv_bi hF
  refine jv_mv (wr := [(h0, .inr (5, [.ref h1, .ref h3, .ref h8, .long bn])), (h1, .inr (1, [.ref h2, .int zp])), (h2, .inl (cC, 3000, .inl ch)), (h3, .inr (0, [.ref h4, .ref h5, .ref h6, .ref h7, .int ct, .int lo, .int oc])), (h4, .inl (cI, 24, .inl kd)), (h5, .inl (cI, 24, .inl dp)), (h6, .inl (cI, 24, .inl su)), (h7, .inl (cL, 24, .inr (.inl nm))), (h8, .inr (0, [.ref h9, .ref h10, .ref h11, .ref h12, .int ct2, .int lo2, .int oc2])), (h9, .inl (cI, 24, .inl kd2)), (h10, .inl (cI, 24, .inl dp2)), (h11, .inl (cI, 24, .inl su2)), (h12, .inl (cL, 24, .inr (.inl nm2))), (q_18, .inr (3, [.ref h2, .int o_8.1, .int o_8.2.1, .int o_8.2.2]))]) (w1 := [(q_16, .inr (4, [.ref q_18, .ref h8, .int o_15]))]) (va_runI (As := [.ref q_18, .ref h8]) (rest := [.ref q_16]) ⟨hx, hb, hml, hown, ht⟩ (c_E_init l dC dI cI cL cC cZ q_16 q_18 h8 H_19.size _ ho_15) (cwI 2 ht (gi_I tw_2_134) rfl rfl rfl (ht _ tw_1_11) (ht _ tw_2_132) (ht _ tw_2_133) rfl (by decide +kernel) ⟨Nat.le_of_ble_eq_true rfl, Nat.le_of_ble_eq_true rfl⟩) (jv_ps hK hP hD [13] rfl (by decide) rfl) rfl rfl hl.1 rfl (lv_room (Nat.le_of_ble_eq_true rfl)) dd_V_read_15 ⟨Nat.le_of_ble_eq_true rfl, Nat.le_of_ble_eq_true rfl⟩) hP hD hS hA [13] [0, 1, 2, 3, 4, 5, 6, 7, 8, 9, 10, 11, 12, 14] rfl rfl (by decide) (by decide) (fun H_22 locs_23 hP hD hS => ?_)
  have hP : va_P (dC, dI) vwCl [(h0, .inr (5, [.ref h1, .ref h3, .ref h8, .long bn])), (h1, .inr (1, [.ref h2, .int zp])), (h2, .inl (cC, 3000, .inl ch)), (h3, .inr (0, [.ref h4, .ref h5, .ref h6, .ref h7, .int ct, .int lo, .int oc])), (h4, .inl (cI, 24, .inl kd)), (h5, .inl (cI, 24, .inl dp)), (h6, .inl (cI, 24, .inl su)), (h7, .inl (cL, 24, .inr (.inl nm))), (h8, .inr (0, [.ref h9, .ref h10, .ref h11, .ref h12, .int ct2, .int lo2, .int oc2])), (h9, .inl (cI, 24, .inl kd2)), (h10, .inl (cI, 24, .inl dp2)), (h11, .inl (cI, 24, .inl su2)), (h12, .inl (cL, 24, .inr (.inl nm2))), (q_16, .inr (4, [.ref q_18, .ref h8, .int o_15])), (q_18, .inr (3, [.ref h2, .int o_8.1, .int o_8.2.1, .int o_8.2.2]))] H_22 := hP.sub [0, 1, 2, 3, 4, 5, 6, 7, 8, 9, 10, 11, 12, 14, 13] rfl
  have hD : va_D A [(h0, .inr (5, [.ref h1, .ref h3, .ref h8, .long bn])), (h1, .inr (1, [.ref h2, .int zp])), (h2, .inl (cC, 3000, .inl ch)), (h3, .inr (0, [.ref h4, .ref h5, .ref h6, .ref h7, .int ct, .int lo, .int oc])), (h4, .inl (cI, 24, .inl kd)), (h5, .inl (cI, 24, .inl dp)), (h6, .inl (cI, 24, .inl su)), (h7, .inl (cL, 24, .inr (.inl nm))), (h8, .inr (0, [.ref h9, .ref h10, .ref h11, .ref h12, .int ct2, .int lo2, .int oc2])), (h9, .inl (cI, 24, .inl kd2)), (h10, .inl (cI, 24, .inl dp2)), (h11, .inl (cI, 24, .inl su2)), (h12, .inl (cL, 24, .inr (.inl nm2))), (q_16, .inr (4, [.ref q_18, .ref h8, .int o_15])), (q_18, .inr (3, [.ref h2, .int o_8.1, .int o_8.2.1, .int o_8.2.2]))] := hD.sub [0, 1, 2, 3, 4, 5, 6, 7, 8, 9, 10, 11, 12, 14, 13] (by decide) rfl
  obtain ⟨o_18, ho_18, hF⟩ := jv_bi hF
  refine jv_mi (wr := [(h0, .inr (5, [.ref h1, .ref h3, .ref h8, .long bn])), (h1, .inr (1, [.ref h2, .int zp])), (h3, .inr (0, [.ref h4, .ref h5, .ref h6, .ref h7, .int ct, .int lo, .int oc])), (h4, .inl (cI, 24, .inl kd)), (h5, .inl (cI, 24, .inl dp)), (h6, .inl (cI, 24, .inl su)), (h7, .inl (cL, 24, .inr (.inl nm)))]) (w1 := [(q_16, .inr (4, [.ref q_18, .ref h8, .int o_18.2.1])), (q_18, .inr (3, [.ref h2, .int o_8.1, .int o_18.2.2.1, .int o_18.2.2.2.1])), (h2, .inl (cC, 3000, .inl ch)), (h8, .inr (0, [.ref h9, .ref h10, .ref h11, .ref h12, .int o_18.2.2.2.2.1, .int o_18.2.2.2.2.2.1, .int o_18.2.2.2.2.2.2.1])), (h9, .inl (cI, 24, .inl o_18.2.2.2.2.2.2.2.1)), (h10, .inl (cI, 24, .inl o_18.2.2.2.2.2.2.2.2.1)), (h11, .inl (cI, 24, .inl o_18.2.2.2.2.2.2.2.2.2.1)), (h12, .inl (cL, 24, .inr (.inl o_18.2.2.2.2.2.2.2.2.2.2)))]) (va_runV (C := cn_E) (As := []) (rest := []) ⟨hx, hb, hml, hown, ht⟩ (c_E_readAll l dC dI cI cL cC cZ adK adV q_16 q_18 h2 h8 h9 h10 h11 h12 H_22.size o_15 o_8.1 o_8.2.1 o_8.2.2 ch ct2 lo2 oc2 kd2 dp2 su2 nm2 _ ho_18) (cwV 0 ht (gi_V tw_2_146 tw_2_147 tw_2_148 tw_1_11 tw_2_149) rfl rfl rfl (by decide +kernel) ⟨Nat.le_of_ble_eq_true rfl, Nat.le_of_ble_eq_true rfl⟩) (jv_sv hK hP hD hS hA hV [13, 14, 2, 8, 9, 10, 11, 12] rfl (by decide) rfl (va_recv hK hP (ci := 4) (q0 := 13) rfl rfl)) rfl rfl hl.1 rfl (lv_room (Nat.le_of_ble_eq_true rfl)) dd_V_read_18 ⟨Nat.le_of_ble_eq_true rfl, Nat.le_of_ble_eq_true rfl⟩) hP hD hS hA [13, 14, 2, 8, 9, 10, 11, 12] [0, 1, 3, 4, 5, 6, 7] rfl rfl (by decide) (by decide) (fun H_24 locs_25 hP hD hS => ?_)
  have hP : va_P (dC, dI) vwCl [(h0, .inr (5, [.ref h1, .ref h3, .ref h8, .long bn])), (h1, .inr (1, [.ref h2, .int zp])), (h2, .inl (cC, 3000, .inl ch)), (h3, .inr (0, [.ref h4, .ref h5, .ref h6, .ref h7, .int ct, .int lo, .int oc])), (h4, .inl (cI, 24, .inl kd)), (h5, .inl (cI, 24, .inl dp)), (h6, .inl (cI, 24, .inl su)), (h7, .inl (cL, 24, .inr (.inl nm))), (h8, .inr (0, [.ref h9, .ref h10, .ref h11, .ref h12, .int o_18.2.2.2.2.1, .int o_18.2.2.2.2.2.1, .int o_18.2.2.2.2.2.2.1])), (h9, .inl (cI, 24, .inl o_18.2.2.2.2.2.2.2.1)), (h10, .inl (cI, 24, .inl o_18.2.2.2.2.2.2.2.2.1)), (h11, .inl (cI, 24, .inl o_18.2.2.2.2.2.2.2.2.2.1)), (h12, .inl (cL, 24, .inr (.inl o_18.2.2.2.2.2.2.2.2.2.2))), (q_16, .inr (4, [.ref q_18, .ref h8, .int o_18.2.1])), (q_18, .inr (3, [.ref h2, .int o_8.1, .int o_18.2.2.1, .int o_18.2.2.2.1]))] H_24 := hP.sub [0, 1, 9, 2, 3, 4, 5, 6, 10, 11, 12, 13, 14, 7, 8] rfl
  have hD : va_D A [(h0, .inr (5, [.ref h1, .ref h3, .ref h8, .long bn])), (h1, .inr (1, [.ref h2, .int zp])), (h2, .inl (cC, 3000, .inl ch)), (h3, .inr (0, [.ref h4, .ref h5, .ref h6, .ref h7, .int ct, .int lo, .int oc])), (h4, .inl (cI, 24, .inl kd)), (h5, .inl (cI, 24, .inl dp)), (h6, .inl (cI, 24, .inl su)), (h7, .inl (cL, 24, .inr (.inl nm))), (h8, .inr (0, [.ref h9, .ref h10, .ref h11, .ref h12, .int o_18.2.2.2.2.1, .int o_18.2.2.2.2.2.1, .int o_18.2.2.2.2.2.2.1])), (h9, .inl (cI, 24, .inl o_18.2.2.2.2.2.2.2.1)), (h10, .inl (cI, 24, .inl o_18.2.2.2.2.2.2.2.2.1)), (h11, .inl (cI, 24, .inl o_18.2.2.2.2.2.2.2.2.2.1)), (h12, .inl (cL, 24, .inr (.inl o_18.2.2.2.2.2.2.2.2.2.2))), (q_16, .inr (4, [.ref q_18, .ref h8, .int o_18.2.1])), (q_18, .inr (3, [.ref h2, .int o_8.1, .int o_18.2.2.1, .int o_18.2.2.2.1]))] := hD.sub [0, 1, 9, 2, 3, 4, 5, 6, 10, 11, 12, 13, 14, 7, 8] (by decide) rfl
  refine lv_istore_n (lv' := [(1, .int o_18.1), (0, .ref h0)]) hx hb dd_V_read_21 rfl hl (by decide) rfl (fun ls hl => ?_)
  refine lv_iload_n hx hb dd_V_read_22 rfl (lv_at hl 0 rfl) ?_
  refine lv_if_ne (tgt := 44) hx hb dd_V_read_23 (by decide) (fun c_26 => ?_) (fun c_26 => ?_)
  · have hF := jv_f c_26 hF
    refine lv_iload_n hx hb dd_V_read_44 rfl (lv_at hl 0 rfl) ?_
    subst hQ
    obtain rfl := Option.some.inj hF
    have hP := hP.sub (ws' := [(h0, .inr (5, [.ref h1, .ref h3, .ref h8, .long bn])), (h1, .inr (1, [.ref h2, .int zp])), (h2, .inl (cC, 3000, .inl ch)), (h3, .inr (0, [.ref h4, .ref h5, .ref h6, .ref h7, .int ct, .int lo, .int oc])), (h4, .inl (cI, 24, .inl kd)), (h5, .inl (cI, 24, .inl dp)), (h6, .inl (cI, 24, .inl su)), (h7, .inl (cL, 24, .inr (.inl nm))), (h8, .inr (0, [.ref h9, .ref h10, .ref h11, .ref h12, .int o_18.2.2.2.2.1, .int o_18.2.2.2.2.2.1, .int o_18.2.2.2.2.2.2.1])), (h9, .inl (cI, 24, .inl o_18.2.2.2.2.2.2.2.1)), (h10, .inl (cI, 24, .inl o_18.2.2.2.2.2.2.2.2.1)), (h11, .inl (cI, 24, .inl o_18.2.2.2.2.2.2.2.2.2.1)), (h12, .inl (cL, 24, .inr (.inl o_18.2.2.2.2.2.2.2.2.2.2)))]) [0, 1, 2, 3, 4, 5, 6, 7, 8, 9, 10, 11, 12] rfl
    have hD := hD.sub (ws' := [(h0, .inr (5, [.ref h1, .ref h3, .ref h8, .long bn])), (h1, .inr (1, [.ref h2, .int zp])), (h2, .inl (cC, 3000, .inl ch)), (h3, .inr (0, [.ref h4, .ref h5, .ref h6, .ref h7, .int ct, .int lo, .int oc])), (h4, .inl (cI, 24, .inl kd)), (h5, .inl (cI, 24, .inl dp)), (h6, .inl (cI, 24, .inl su)), (h7, .inl (cL, 24, .inr (.inl nm))), (h8, .inr (0, [.ref h9, .ref h10, .ref h11, .ref h12, .int o_18.2.2.2.2.1, .int o_18.2.2.2.2.2.1, .int o_18.2.2.2.2.2.2.1])), (h9, .inl (cI, 24, .inl o_18.2.2.2.2.2.2.2.1)), (h10, .inl (cI, 24, .inl o_18.2.2.2.2.2.2.2.2.1)), (h11, .inl (cI, 24, .inl o_18.2.2.2.2.2.2.2.2.2.1)), (h12, .inl (cL, 24, .inr (.inl o_18.2.2.2.2.2.2.2.2.2.2)))]) [0, 1, 2, 3, 4, 5, 6, 7, 8, 9, 10, 11, 12] (by decide) rfl
    exact W.iret (v := o_18.1) hx hb hr (fun t ht hW => ⟨⟨o_18.1, (h1, h2, h3, h4, h5, h6, h7, h8, h9, h10, h11, h12), rfl, rfl, by rw [ht]; exact hP, va_K.moved hW.alike hK, hD⟩, hS.F ht⟩) hS.2.2 dd_V_read_45
  · have hF := jv_t c_26 hF
    refine lv_aload_n hx hb dd_V_read_26 rfl (lv_at hl 1 rfl) ?_
    refine va_get (D := (dC, dI)) (ci := 5) (v := .ref h3) (C := cn_V) (T := tt_V) (N := 4) hx hb ht in_V hown hK hP 0 rfl rfl 1 (by decide) (ht _ tw_1_66) (fun _ h9 => h9) rfl dd_V_read_27 ?_
    refine lv_astore_n (lv' := [(2, .ref h3), (1, .int o_18.1), (0, .ref h0)]) hx hb dd_V_read_30 rfl hl (by decide) rfl (fun ls hl => ?_)
    refine lv_aload_n hx hb dd_V_read_31 rfl (lv_at hl 2 rfl) ?_
    refine lv_aload_n hx hb dd_V_read_32 rfl (lv_at hl 2 rfl) ?_
    refine va_get (D := (dC, dI)) (ci := 5) (v := .ref h8) (C := cn_V) (T := tt_V) (N := 4) hx hb ht in_V hown hK hP 0 rfl rfl 2 (by decide) (ht _ tw_1_67) (fun _ h9 => h9) rfl dd_V_read_33 ?_
    refine va_put (D := (dC, dI)) (ci := 5) (v := .ref h8) (ty := (.object "VerdictPages$Report")) (C := cn_V) (T := tt_V) (N := 4) hx hb ht in_V ty_V tyok_V nm_V hown hK hP hD hS 0 rfl rfl 1 (by decide) (ht _ tw_1_66) (fun _ h9 => h9) rfl (by decide +kernel) rfl rfl (Nat.le_of_ble_eq_true rfl) dd_V_read_36 (fun H_27 locs_28 hP hD hS => ?_)
    have hP : va_P (dC, dI) vwCl [(h0, .inr (5, [.ref h1, .ref h8, .ref h8, .long bn])), (h1, .inr (1, [.ref h2, .int zp])), (h2, .inl (cC, 3000, .inl ch)), (h3, .inr (0, [.ref h4, .ref h5, .ref h6, .ref h7, .int ct, .int lo, .int oc])), (h4, .inl (cI, 24, .inl kd)), (h5, .inl (cI, 24, .inl dp)), (h6, .inl (cI, 24, .inl su)), (h7, .inl (cL, 24, .inr (.inl nm))), (h8, .inr (0, [.ref h9, .ref h10, .ref h11, .ref h12, .int o_18.2.2.2.2.1, .int o_18.2.2.2.2.2.1, .int o_18.2.2.2.2.2.2.1])), (h9, .inl (cI, 24, .inl o_18.2.2.2.2.2.2.2.1)), (h10, .inl (cI, 24, .inl o_18.2.2.2.2.2.2.2.2.1)), (h11, .inl (cI, 24, .inl o_18.2.2.2.2.2.2.2.2.2.1)), (h12, .inl (cL, 24, .inr (.inl o_18.2.2.2.2.2.2.2.2.2.2))), (q_16, .inr (4, [.ref q_18, .ref h8, .int o_18.2.1])), (q_18, .inr (3, [.ref h2, .int o_8.1, .int o_18.2.2.1, .int o_18.2.2.2.1]))] H_27 := hP
    have hD : va_D A [(h0, .inr (5, [.ref h1, .ref h8, .ref h8, .long bn])), (h1, .inr (1, [.ref h2, .int zp])), (h2, .inl (cC, 3000, .inl ch)), (h3, .inr (0, [.ref h4, .ref h5, .ref h6, .ref h7, .int ct, .int lo, .int oc])), (h4, .inl (cI, 24, .inl kd)), (h5, .inl (cI, 24, .inl dp)), (h6, .inl (cI, 24, .inl su)), (h7, .inl (cL, 24, .inr (.inl nm))), (h8, .inr (0, [.ref h9, .ref h10, .ref h11, .ref h12, .int o_18.2.2.2.2.1, .int o_18.2.2.2.2.2.1, .int o_18.2.2.2.2.2.2.1])), (h9, .inl (cI, 24, .inl o_18.2.2.2.2.2.2.2.1)), (h10, .inl (cI, 24, .inl o_18.2.2.2.2.2.2.2.2.1)), (h11, .inl (cI, 24, .inl o_18.2.2.2.2.2.2.2.2.2.1)), (h12, .inl (cL, 24, .inr (.inl o_18.2.2.2.2.2.2.2.2.2.2))), (q_16, .inr (4, [.ref q_18, .ref h8, .int o_18.2.1])), (q_18, .inr (3, [.ref h2, .int o_8.1, .int o_18.2.2.1, .int o_18.2.2.2.1]))] := hD
    refine lv_aload_n hx hb dd_V_read_39 rfl (lv_at hl 2 rfl) ?_
    refine lv_aload_n hx hb dd_V_read_40 rfl (lv_at hl 0 rfl) ?_
    refine va_put (D := (dC, dI)) (ci := 5) (v := .ref h3) (ty := (.object "VerdictPages$Report")) (C := cn_V) (T := tt_V) (N := 4) hx hb ht in_V ty_V tyok_V nm_V hown hK hP hD hS 0 rfl rfl 2 (by decide) (ht _ tw_1_67) (fun _ h9 => h9) rfl (by decide +kernel) rfl rfl (Nat.le_of_ble_eq_true rfl) dd_V_read_41 (fun H_29 locs_30 hP hD hS => ?_)
    have hP : va_P (dC, dI) vwCl [(h0, .inr (5, [.ref h1, .ref h8, .ref h3, .long bn])), (h1, .inr (1, [.ref h2, .int zp])), (h2, .inl (cC, 3000, .inl ch)), (h3, .inr (0, [.ref h4, .ref h5, .ref h6, .ref h7, .int ct, .int lo, .int oc])), (h4, .inl (cI, 24, .inl kd)), (h5, .inl (cI, 24, .inl dp)), (h6, .inl (cI, 24, .inl su)), (h7, .inl (cL, 24, .inr (.inl nm))), (h8, .inr (0, [.ref h9, .ref h10, .ref h11, .ref h12, .int o_18.2.2.2.2.1, .int o_18.2.2.2.2.2.1, .int o_18.2.2.2.2.2.2.1])), (h9, .inl (cI, 24, .inl o_18.2.2.2.2.2.2.2.1)), (h10, .inl (cI, 24, .inl o_18.2.2.2.2.2.2.2.2.1)), (h11, .inl (cI, 24, .inl o_18.2.2.2.2.2.2.2.2.2.1)), (h12, .inl (cL, 24, .inr (.inl o_18.2.2.2.2.2.2.2.2.2.2))), (q_16, .inr (4, [.ref q_18, .ref h8, .int o_18.2.1])), (q_18, .inr (3, [.ref h2, .int o_8.1, .int o_18.2.2.1, .int o_18.2.2.2.1]))] H_29 := hP
    have hD : va_D A [(h0, .inr (5, [.ref h1, .ref h8, .ref h3, .long bn])), (h1, .inr (1, [.ref h2, .int zp])), (h2, .inl (cC, 3000, .inl ch)), (h3, .inr (0, [.ref h4, .ref h5, .ref h6, .ref h7, .int ct, .int lo, .int oc])), (h4, .inl (cI, 24, .inl kd)), (h5, .inl (cI, 24, .inl dp)), (h6, .inl (cI, 24, .inl su)), (h7, .inl (cL, 24, .inr (.inl nm))), (h8, .inr (0, [.ref h9, .ref h10, .ref h11, .ref h12, .int o_18.2.2.2.2.1, .int o_18.2.2.2.2.2.1, .int o_18.2.2.2.2.2.2.1])), (h9, .inl (cI, 24, .inl o_18.2.2.2.2.2.2.2.1)), (h10, .inl (cI, 24, .inl o_18.2.2.2.2.2.2.2.2.1)), (h11, .inl (cI, 24, .inl o_18.2.2.2.2.2.2.2.2.2.1)), (h12, .inl (cL, 24, .inr (.inl o_18.2.2.2.2.2.2.2.2.2.2))), (q_16, .inr (4, [.ref q_18, .ref h8, .int o_18.2.1])), (q_18, .inr (3, [.ref h2, .int o_8.1, .int o_18.2.2.1, .int o_18.2.2.2.1]))] := hD
    refine lv_iload_n hx hb dd_V_read_44 rfl (lv_at hl 1 rfl) ?_
    subst hQ
    obtain rfl := Option.some.inj hF
    have hP := hP.sub (ws' := [(h0, .inr (5, [.ref h1, .ref h8, .ref h3, .long bn])), (h1, .inr (1, [.ref h2, .int zp])), (h2, .inl (cC, 3000, .inl ch)), (h8, .inr (0, [.ref h9, .ref h10, .ref h11, .ref h12, .int o_18.2.2.2.2.1, .int o_18.2.2.2.2.2.1, .int o_18.2.2.2.2.2.2.1])), (h9, .inl (cI, 24, .inl o_18.2.2.2.2.2.2.2.1)), (h10, .inl (cI, 24, .inl o_18.2.2.2.2.2.2.2.2.1)), (h11, .inl (cI, 24, .inl o_18.2.2.2.2.2.2.2.2.2.1)), (h12, .inl (cL, 24, .inr (.inl o_18.2.2.2.2.2.2.2.2.2.2))), (h3, .inr (0, [.ref h4, .ref h5, .ref h6, .ref h7, .int ct, .int lo, .int oc])), (h4, .inl (cI, 24, .inl kd)), (h5, .inl (cI, 24, .inl dp)), (h6, .inl (cI, 24, .inl su)), (h7, .inl (cL, 24, .inr (.inl nm)))]) [0, 1, 2, 8, 9, 10, 11, 12, 3, 4, 5, 6, 7] rfl
    have hD := hD.sub (ws' := [(h0, .inr (5, [.ref h1, .ref h8, .ref h3, .long bn])), (h1, .inr (1, [.ref h2, .int zp])), (h2, .inl (cC, 3000, .inl ch)), (h8, .inr (0, [.ref h9, .ref h10, .ref h11, .ref h12, .int o_18.2.2.2.2.1, .int o_18.2.2.2.2.2.1, .int o_18.2.2.2.2.2.2.1])), (h9, .inl (cI, 24, .inl o_18.2.2.2.2.2.2.2.1)), (h10, .inl (cI, 24, .inl o_18.2.2.2.2.2.2.2.2.1)), (h11, .inl (cI, 24, .inl o_18.2.2.2.2.2.2.2.2.2.1)), (h12, .inl (cL, 24, .inr (.inl o_18.2.2.2.2.2.2.2.2.2.2))), (h3, .inr (0, [.ref h4, .ref h5, .ref h6, .ref h7, .int ct, .int lo, .int oc])), (h4, .inl (cI, 24, .inl kd)), (h5, .inl (cI, 24, .inl dp)), (h6, .inl (cI, 24, .inl su)), (h7, .inl (cL, 24, .inr (.inl nm)))]) [0, 1, 2, 8, 9, 10, 11, 12, 3, 4, 5, 6, 7] (by decide) rfl
    exact W.iret (v := o_18.1) hx hb hr (fun t ht hW => ⟨⟨o_18.1, (h1, h2, h8, h9, h10, h11, h12, h3, h4, h5, h6, h7), rfl, rfl, by rw [ht]; exact hP, va_K.moved hW.alike hK, hD⟩, hS.F ht⟩) hS.2.2 dd_V_read_45
