set_option maxHeartbeats 40000000 in
set_option maxRecDepth 100000 in
theorem c_R_init (l : Launch) (dC : Nat → ClassId) (dI : Nat → Nat → Nat) (cI cL cC cZ : ClassId) (h0 : Nat) (sz : Nat)   (out : Int32 × Int32 × Int32 × (Nat → Int32) × (Nat → Int32) × (Nat → Int32) × (Nat → Int64)) (hF : fn_R_init  = some out) : Met l yy_R_init ws_R_init { frames := 1, cells := 4, slots := 96, locals := 12 } (mP_ (dC, dI) (tk_ cI cL cC cZ) [(h0, .inr (0, [.null, .null, .null, .null, .int 0, .int 0, .int 0]))] sz [.ref h0]) (va_Qv (fun _ : Nat × Nat × Nat × Nat => True) (mU_ (dC, dI) (tk_ cI cL cC cZ) (fun u : Nat × Nat × Nat × Nat => [(h0, .inr (0, [.ref u.1, .ref u.2.1, .ref u.2.2.1, .ref u.2.2.2, .int out.1, .int out.2.1, .int out.2.2.1])), (u.1, .inl (cI, 24, .inl out.2.2.2.1)), (u.2.1, .inl (cI, 24, .inl out.2.2.2.2.1)), (u.2.2.1, .inl (cI, 24, .inl out.2.2.2.2.2.1)), (u.2.2.2, .inl (cL, 24, .inr (.inl out.2.2.2.2.2.2)))]) (va_A [(h0, .inr (0, [.null, .null, .null, .null, .int 0, .int 0, .int 0]))] sz)) (va_A [(h0, .inr (0, [.null, .null, .null, .null, .int 0, .int 0, .int 0]))] sz)) 4 96 (va_A [(h0, .inr (0, [.null, .null, .null, .null, .int 0, .int 0, .int 0]))] sz) := by
  refine Met.ofW (cc := cc_R_init) (maxL := 1) (ret := none) (by decide) rfl ?_
  intro p e s m args below meth c s₁ B hml hv
  obtain ⟨hargs, hsz, hP, hK, hD0⟩ := hv
  have hx := B.exec
  have hb := B.bytes
  have hr := B.returns
  have hts := atoms_spec (ws := ws_R_init) B.pre
  have ht : ∀ w ∈ TB_, w.before args s = true := fun w h => hts w (List.mem_cons_of_mem _ h)
  have hown : s.vm.findClass cn_R = some m.cls := findClass_of_methodNamed B.named
  have hlocks := B.notSynchronized
  have hin : meth.name = "<init>" := (name_of_methodNamed B.named B.method).1
  subst hsz
  have hD := hD0.self (sz := s.heap.size)
  generalize hAe : va_A [(h0, .inr (0, [.null, .null, .null, .null, .int 0, .int 0, .int 0]))] s.heap.size = A at hD ⊢
  have hA : ∀ q : Nat, s.heap.size ≤ q → A q := fun q h => by rw [← hAe]; exact Or.inr h
  have hS : va_S A s.heap s.heap [] := va_S.rf
  have hP : va_P (dC, dI) vwCl [(h0, .inr (0, [.null, .null, .null, .null, .int 0, .int 0, .int 0]))] s.heap := hP
  have hl := lv_entry [.ref h0] (n := 1) (Nat.le_of_ble_eq_true rfl)
  have he : entryFrame m args 1 = _ := (congrArg (fun a => entryFrame m a 1) hargs).trans (lg_entry_eq m [.ref h0] 1)
  rw [he]
  generalize (lg_sl [.ref h0] ++ List.replicate (1 - (lg_sl [.ref h0]).length) Slot.unset).toArray = ls at hl ⊢
  have hl : lv_has ls 1 [(0, .ref h0)] := hl
  generalize hQ : MQ below _ args s _ _ _ = Q
  unfold fn_R_init at hF
  refine lv_aload_n hx hb dd_R_init_0 rfl (lv_at hl 0 rfl) ?_
  refine W.objInit hx hb hown (ht _ tw_1_40) (ht _ tw_1_19) (ht _ tw_1_20) rfl (by rw [hml]; exact hl.1) rfl dd_R_init_1 (Nat.le_of_ble_eq_true rfl) (Nat.le_of_ble_eq_true rfl) ?_
  refine W.eq (g2 := F0 m 4 ls []) rfl ?_
  refine lv_aload_n hx hb dd_R_init_4 rfl (lv_at hl 0 rfl) ?_
  refine lv_bipush (v := 24) hx hb dd_R_init_5 (by decide) ?_
  refine jv_nai hx hb (ht _ tw_1_63) hK hP hD hS hA (N' := 24) (a0 := (24, .inl (fun _ => 0))) (fun _ => rfl) (by decide) (by decide) (by decide) (Nat.le_of_ble_eq_true rfl) (Nat.le_of_ble_eq_true rfl) dd_R_init_7 (fun q_23 H_24 hP hD hS => ?_)
  have hP : va_P (dC, dI) vwCl [(h0, .inr (0, [.null, .null, .null, .null, .int 0, .int 0, .int 0])), (q_23, .inl (cI, 24, .inl (fun _ => 0)))] H_24 := hP
  have hD : va_D A [(h0, .inr (0, [.null, .null, .null, .null, .int 0, .int 0, .int 0])), (q_23, .inl (cI, 24, .inl (fun _ => 0)))] := hD
  refine va_putF (D := (dC, dI)) (ci := 0) (v := .ref q_23) (ty := (.array .int)) (C := cn_R) (T := tt_R) (N := 7) hx hb ht in_R ty_R tyok_R nm_R hown hK hP hD hS 0 rfl rfl 0 (by decide) (ht _ tw_1_41) (fun _ h9 => h9) rfl hin rfl (by decide +kernel) rfl rfl (Nat.le_of_ble_eq_true rfl) dd_R_init_9 (fun H_25 locs_26 hP hD hS => ?_)
  have hP : va_P (dC, dI) vwCl [(h0, .inr (0, [.ref q_23, .null, .null, .null, .int 0, .int 0, .int 0])), (q_23, .inl (cI, 24, .inl (fun _ => 0)))] H_25 := hP
  have hD : va_D A [(h0, .inr (0, [.ref q_23, .null, .null, .null, .int 0, .int 0, .int 0])), (q_23, .inl (cI, 24, .inl (fun _ => 0)))] := hD
  refine lv_aload_n hx hb dd_R_init_12 rfl (lv_at hl 0 rfl) ?_
  refine lv_bipush (v := 24) hx hb dd_R_init_13 (by decide) ?_
  refine jv_nai hx hb (ht _ tw_1_63) hK hP hD hS hA (N' := 24) (a0 := (24, .inl (fun _ => 0))) (fun _ => rfl) (by decide) (by decide) (by decide) (Nat.le_of_ble_eq_true rfl) (Nat.le_of_ble_eq_true rfl) dd_R_init_15 (fun q_27 H_28 hP hD hS => ?_)
  have hP : va_P (dC, dI) vwCl [(h0, .inr (0, [.ref q_23, .null, .null, .null, .int 0, .int 0, .int 0])), (q_23, .inl (cI, 24, .inl (fun _ => 0))), (q_27, .inl (cI, 24, .inl (fun _ => 0)))] H_28 := hP
  have hD : va_D A [(h0, .inr (0, [.ref q_23, .null, .null, .null, .int 0, .int 0, .int 0])), (q_23, .inl (cI, 24, .inl (fun _ => 0))), (q_27, .inl (cI, 24, .inl (fun _ => 0)))] := hD
  refine va_putF (D := (dC, dI)) (ci := 0) (v := .ref q_27) (ty := (.array .int)) (C := cn_R) (T := tt_R) (N := 7) hx hb ht in_R ty_R tyok_R nm_R hown hK hP hD hS 0 rfl rfl 1 (by decide) (ht _ tw_1_42) (fun _ h9 => h9) rfl hin rfl (by decide +kernel) rfl rfl (Nat.le_of_ble_eq_true rfl) dd_R_init_17 (fun H_29 locs_30 hP hD hS => ?_)
  have hP : va_P (dC, dI) vwCl [(h0, .inr (0, [.ref q_23, .ref q_27, .null, .null, .int 0, .int 0, .int 0])), (q_23, .inl (cI, 24, .inl (fun _ => 0))), (q_27, .inl (cI, 24, .inl (fun _ => 0)))] H_29 := hP
  have hD : va_D A [(h0, .inr (0, [.ref q_23, .ref q_27, .null, .null, .int 0, .int 0, .int 0])), (q_23, .inl (cI, 24, .inl (fun _ => 0))), (q_27, .inl (cI, 24, .inl (fun _ => 0)))] := hD
  refine lv_aload_n hx hb dd_R_init_20 rfl (lv_at hl 0 rfl) ?_
  refine lv_bipush (v := 24) hx hb dd_R_init_21 (by decide) ?_
  refine jv_nai hx hb (ht _ tw_1_63) hK hP hD hS hA (N' := 24) (a0 := (24, .inl (fun _ => 0))) (fun _ => rfl) (by decide) (by decide) (by decide) (Nat.le_of_ble_eq_true rfl) (Nat.le_of_ble_eq_true rfl) dd_R_init_23 (fun q_31 H_32 hP hD hS => ?_)
  have hP : va_P (dC, dI) vwCl [(h0, .inr (0, [.ref q_23, .ref q_27, .null, .null, .int 0, .int 0, .int 0])), (q_23, .inl (cI, 24, .inl (fun _ => 0))), (q_27, .inl (cI, 24, .inl (fun _ => 0))), (q_31, .inl (cI, 24, .inl (fun _ => 0)))] H_32 := hP
  have hD : va_D A [(h0, .inr (0, [.ref q_23, .ref q_27, .null, .null, .int 0, .int 0, .int 0])), (q_23, .inl (cI, 24, .inl (fun _ => 0))), (q_27, .inl (cI, 24, .inl (fun _ => 0))), (q_31, .inl (cI, 24, .inl (fun _ => 0)))] := hD
  refine va_putF (D := (dC, dI)) (ci := 0) (v := .ref q_31) (ty := (.array .int)) (C := cn_R) (T := tt_R) (N := 7) hx hb ht in_R ty_R tyok_R nm_R hown hK hP hD hS 0 rfl rfl 2 (by decide) (ht _ tw_1_43) (fun _ h9 => h9) rfl hin rfl (by decide +kernel) rfl rfl (Nat.le_of_ble_eq_true rfl) dd_R_init_25 (fun H_33 locs_34 hP hD hS => ?_)
  have hP : va_P (dC, dI) vwCl [(h0, .inr (0, [.ref q_23, .ref q_27, .ref q_31, .null, .int 0, .int 0, .int 0])), (q_23, .inl (cI, 24, .inl (fun _ => 0))), (q_27, .inl (cI, 24, .inl (fun _ => 0))), (q_31, .inl (cI, 24, .inl (fun _ => 0)))] H_33 := hP
  have hD : va_D A [(h0, .inr (0, [.ref q_23, .ref q_27, .ref q_31, .null, .int 0, .int 0, .int 0])), (q_23, .inl (cI, 24, .inl (fun _ => 0))), (q_27, .inl (cI, 24, .inl (fun _ => 0))), (q_31, .inl (cI, 24, .inl (fun _ => 0)))] := hD
  refine lv_aload_n hx hb dd_R_init_28 rfl (lv_at hl 0 rfl) ?_
  refine lv_bipush (v := 24) hx hb dd_R_init_29 (by decide) ?_
  refine jv_nal hx hb (ht _ tw_1_64) hK hP hD hS hA (N' := 24) (a0 := (24, .inr (.inl (fun _ => 0)))) (fun _ => rfl) (by decide) (by decide) (by decide) (Nat.le_of_ble_eq_true rfl) (Nat.le_of_ble_eq_true rfl) dd_R_init_31 (fun q_35 H_36 hP hD hS => ?_)
  have hP : va_P (dC, dI) vwCl [(h0, .inr (0, [.ref q_23, .ref q_27, .ref q_31, .null, .int 0, .int 0, .int 0])), (q_23, .inl (cI, 24, .inl (fun _ => 0))), (q_27, .inl (cI, 24, .inl (fun _ => 0))), (q_31, .inl (cI, 24, .inl (fun _ => 0))), (q_35, .inl (cL, 24, .inr (.inl (fun _ => 0))))] H_36 := hP
  have hD : va_D A [(h0, .inr (0, [.ref q_23, .ref q_27, .ref q_31, .null, .int 0, .int 0, .int 0])), (q_23, .inl (cI, 24, .inl (fun _ => 0))), (q_27, .inl (cI, 24, .inl (fun _ => 0))), (q_31, .inl (cI, 24, .inl (fun _ => 0))), (q_35, .inl (cL, 24, .inr (.inl (fun _ => 0))))] := hD
  refine va_putF (D := (dC, dI)) (ci := 0) (v := .ref q_35) (ty := (.array .long)) (C := cn_R) (T := tt_R) (N := 7) hx hb ht in_R ty_R tyok_R nm_R hown hK hP hD hS 0 rfl rfl 3 (by decide) (ht _ tw_1_44) (fun _ h9 => h9) rfl hin rfl (by decide +kernel) rfl rfl (Nat.le_of_ble_eq_true rfl) dd_R_init_33 (fun H_37 locs_38 hP hD hS => ?_)
  have hP : va_P (dC, dI) vwCl [(h0, .inr (0, [.ref q_23, .ref q_27, .ref q_31, .ref q_35, .int 0, .int 0, .int 0])), (q_23, .inl (cI, 24, .inl (fun _ => 0))), (q_27, .inl (cI, 24, .inl (fun _ => 0))), (q_31, .inl (cI, 24, .inl (fun _ => 0))), (q_35, .inl (cL, 24, .inr (.inl (fun _ => 0))))] H_37 := hP
  have hD : va_D A [(h0, .inr (0, [.ref q_23, .ref q_27, .ref q_31, .ref q_35, .int 0, .int 0, .int 0])), (q_23, .inl (cI, 24, .inl (fun _ => 0))), (q_27, .inl (cI, 24, .inl (fun _ => 0))), (q_31, .inl (cI, 24, .inl (fun _ => 0))), (q_35, .inl (cL, 24, .inr (.inl (fun _ => 0))))] := hD
  refine lv_aload_n hx hb dd_R_init_36 rfl (lv_at hl 0 rfl) ?_
  refine lv_iconst (v := 0) hx hb dd_R_init_37 (by decide) ?_
  refine va_put (D := (dC, dI)) (ci := 0) (v := .int 0) (ty := .int) (C := cn_R) (T := tt_R) (N := 7) hx hb ht in_R ty_R tyok_R nm_R hown hK hP hD hS 0 rfl rfl 4 (by decide) (ht _ tw_1_45) (fun _ h9 => h9) rfl (by decide +kernel) rfl rfl (Nat.le_of_ble_eq_true rfl) dd_R_init_38 (fun H_39 locs_40 hP hD hS => ?_)
  have hP : va_P (dC, dI) vwCl [(h0, .inr (0, [.ref q_23, .ref q_27, .ref q_31, .ref q_35, .int 0, .int 0, .int 0])), (q_23, .inl (cI, 24, .inl (fun _ => 0))), (q_27, .inl (cI, 24, .inl (fun _ => 0))), (q_31, .inl (cI, 24, .inl (fun _ => 0))), (q_35, .inl (cL, 24, .inr (.inl (fun _ => 0))))] H_39 := hP
  have hD : va_D A [(h0, .inr (0, [.ref q_23, .ref q_27, .ref q_31, .ref q_35, .int 0, .int 0, .int 0])), (q_23, .inl (cI, 24, .inl (fun _ => 0))), (q_27, .inl (cI, 24, .inl (fun _ => 0))), (q_31, .inl (cI, 24, .inl (fun _ => 0))), (q_35, .inl (cL, 24, .inr (.inl (fun _ => 0))))] := hD
  refine lv_aload_n hx hb dd_R_init_41 rfl (lv_at hl 0 rfl) ?_
  refine lv_iconst (v := (-1)) hx hb dd_R_init_42 (by decide) ?_
  refine va_put (D := (dC, dI)) (ci := 0) (v := .int (-1)) (ty := .int) (C := cn_R) (T := tt_R) (N := 7) hx hb ht in_R ty_R tyok_R nm_R hown hK hP hD hS 0 rfl rfl 5 (by decide) (ht _ tw_1_46) (fun _ h9 => h9) rfl (by decide +kernel) rfl rfl (Nat.le_of_ble_eq_true rfl) dd_R_init_43 (fun H_41 locs_42 hP hD hS => ?_)
  have hP : va_P (dC, dI) vwCl [(h0, .inr (0, [.ref q_23, .ref q_27, .ref q_31, .ref q_35, .int 0, .int (-1), .int 0])), (q_23, .inl (cI, 24, .inl (fun _ => 0))), (q_27, .inl (cI, 24, .inl (fun _ => 0))), (q_31, .inl (cI, 24, .inl (fun _ => 0))), (q_35, .inl (cL, 24, .inr (.inl (fun _ => 0))))] H_41 := hP
  have hD : va_D A [(h0, .inr (0, [.ref q_23, .ref q_27, .ref q_31, .ref q_35, .int 0, .int (-1), .int 0])), (q_23, .inl (cI, 24, .inl (fun _ => 0))), (q_27, .inl (cI, 24, .inl (fun _ => 0))), (q_31, .inl (cI, 24, .inl (fun _ => 0))), (q_35, .inl (cL, 24, .inr (.inl (fun _ => 0))))] := hD
  refine lv_aload_n hx hb dd_R_init_46 rfl (lv_at hl 0 rfl) ?_
  refine lv_iconst (v := 0) hx hb dd_R_init_47 (by decide) ?_
  refine va_put (D := (dC, dI)) (ci := 0) (v := .int 0) (ty := .int) (C := cn_R) (T := tt_R) (N := 7) hx hb ht in_R ty_R tyok_R nm_R hown hK hP hD hS 0 rfl rfl 6 (by decide) (ht _ tw_1_47) (fun _ h9 => h9) rfl (by decide +kernel) rfl rfl (Nat.le_of_ble_eq_true rfl) dd_R_init_48 (fun H_43 locs_44 hP hD hS => ?_)
  have hP : va_P (dC, dI) vwCl [(h0, .inr (0, [.ref q_23, .ref q_27, .ref q_31, .ref q_35, .int 0, .int (-1), .int 0])), (q_23, .inl (cI, 24, .inl (fun _ => 0))), (q_27, .inl (cI, 24, .inl (fun _ => 0))), (q_31, .inl (cI, 24, .inl (fun _ => 0))), (q_35, .inl (cL, 24, .inr (.inl (fun _ => 0))))] H_43 := hP
  have hD : va_D A [(h0, .inr (0, [.ref q_23, .ref q_27, .ref q_31, .ref q_35, .int 0, .int (-1), .int 0])), (q_23, .inl (cI, 24, .inl (fun _ => 0))), (q_27, .inl (cI, 24, .inl (fun _ => 0))), (q_31, .inl (cI, 24, .inl (fun _ => 0))), (q_35, .inl (cL, 24, .inr (.inl (fun _ => 0))))] := hD
  subst hQ
  obtain rfl := Option.some.inj hF
  have hP := hP.sub (ws' := [(h0, .inr (0, [.ref q_23, .ref q_27, .ref q_31, .ref q_35, .int 0, .int (-1), .int 0])), (q_23, .inl (cI, 24, .inl (fun _ => 0))), (q_27, .inl (cI, 24, .inl (fun _ => 0))), (q_31, .inl (cI, 24, .inl (fun _ => 0))), (q_35, .inl (cL, 24, .inr (.inl (fun _ => 0))))]) [0, 1, 2, 3, 4] rfl
  have hD := hD.sub (ws' := [(h0, .inr (0, [.ref q_23, .ref q_27, .ref q_31, .ref q_35, .int 0, .int (-1), .int 0])), (q_23, .inl (cI, 24, .inl (fun _ => 0))), (q_27, .inl (cI, 24, .inl (fun _ => 0))), (q_31, .inl (cI, 24, .inl (fun _ => 0))), (q_35, .inl (cL, 24, .inr (.inl (fun _ => 0))))]) [0, 1, 2, 3, 4] (by decide) rfl
  exact W.vret hx hb hr (fun t ht hW => ⟨⟨(q_23, q_27, q_31, q_35), rfl, trivial, by rw [ht]; exact hP, va_K.moved hW.alike hK, hD⟩, hS.F ht⟩) hS.2.2 dd_R_init_51
set_option maxHeartbeats 40000000 in
set_option maxRecDepth 100000 in
theorem c_R_removeAll (l : Launch) (dC : Nat → ClassId) (dI : Nat → Nat → Nat) (cI cL cC cZ : ClassId) (h0 h1 h2 h3 h4 : Nat) (sz : Nat) (ct : Int32) (lo : Int32) (oc : Int32) (kd : Nat → Int32) (dp : Nat → Int32) (su : Nat → Int32) (nm : Nat → Int64)  (out : Int32 × Int32 × Int32) (hF : fn_R_removeAll ct lo oc = some out) : Met l yy_R_removeAll ws_R_removeAll { frames := 0, cells := 0, slots := 0, locals := 0 } (mP_ (dC, dI) (tk_ cI cL cC cZ) [(h0, .inr (0, [.ref h1, .ref h2, .ref h3, .ref h4, .int ct, .int lo, .int oc])), (h1, .inl (cI, 24, .inl kd)), (h2, .inl (cI, 24, .inl dp)), (h3, .inl (cI, 24, .inl su)), (h4, .inl (cL, 24, .inr (.inl nm)))] sz [.ref h0]) (va_Qv (fun _ : Unit => True) (mB_ (dC, dI) (tk_ cI cL cC cZ) [(h0, .inr (0, [.ref h1, .ref h2, .ref h3, .ref h4, .int out.1, .int out.2.1, .int out.2.2])), (h1, .inl (cI, 24, .inl kd)), (h2, .inl (cI, 24, .inl dp)), (h3, .inl (cI, 24, .inl su)), (h4, .inl (cL, 24, .inr (.inl nm)))] (va_A [(h0, .inr (0, [.ref h1, .ref h2, .ref h3, .ref h4, .int ct, .int lo, .int oc])), (h1, .inl (cI, 24, .inl kd)), (h2, .inl (cI, 24, .inl dp)), (h3, .inl (cI, 24, .inl su)), (h4, .inl (cL, 24, .inr (.inl nm)))] sz)) (va_A [(h0, .inr (0, [.ref h1, .ref h2, .ref h3, .ref h4, .int ct, .int lo, .int oc])), (h1, .inl (cI, 24, .inl kd)), (h2, .inl (cI, 24, .inl dp)), (h3, .inl (cI, 24, .inl su)), (h4, .inl (cL, 24, .inr (.inl nm)))] sz)) 0 0 (va_A [(h0, .inr (0, [.ref h1, .ref h2, .ref h3, .ref h4, .int ct, .int lo, .int oc])), (h1, .inl (cI, 24, .inl kd)), (h2, .inl (cI, 24, .inl dp)), (h3, .inl (cI, 24, .inl su)), (h4, .inl (cL, 24, .inr (.inl nm)))] sz) := by
  refine Met.ofW (cc := cc_R_removeAll) (maxL := 1) (ret := none) (by decide) rfl ?_
  intro p e s m args below meth c s₁ B hml hv
  obtain ⟨hargs, hsz, hP, hK, hD0⟩ := hv
  have hx := B.exec
  have hb := B.bytes
  have hr := B.returns
  have hts := atoms_spec (ws := ws_R_removeAll) B.pre
  have ht : ∀ w ∈ TB_, w.before args s = true := fun w h => hts w (List.mem_cons_of_mem _ h)
  have hown : s.vm.findClass cn_R = some m.cls := findClass_of_methodNamed B.named
  have hlocks := B.notSynchronized
  subst hsz
  have hD := hD0.self (sz := s.heap.size)
  generalize hAe : va_A [(h0, .inr (0, [.ref h1, .ref h2, .ref h3, .ref h4, .int ct, .int lo, .int oc])), (h1, .inl (cI, 24, .inl kd)), (h2, .inl (cI, 24, .inl dp)), (h3, .inl (cI, 24, .inl su)), (h4, .inl (cL, 24, .inr (.inl nm)))] s.heap.size = A at hD ⊢
  have hA : ∀ q : Nat, s.heap.size ≤ q → A q := fun q h => by rw [← hAe]; exact Or.inr h
  have hS : va_S A s.heap s.heap [] := va_S.rf
  have hP : va_P (dC, dI) vwCl [(h0, .inr (0, [.ref h1, .ref h2, .ref h3, .ref h4, .int ct, .int lo, .int oc])), (h1, .inl (cI, 24, .inl kd)), (h2, .inl (cI, 24, .inl dp)), (h3, .inl (cI, 24, .inl su)), (h4, .inl (cL, 24, .inr (.inl nm)))] s.heap := hP
  have hl := lv_entry [.ref h0] (n := 1) (Nat.le_of_ble_eq_true rfl)
  have he : entryFrame m args 1 = _ := (congrArg (fun a => entryFrame m a 1) hargs).trans (lg_entry_eq m [.ref h0] 1)
  rw [he]
  generalize (lg_sl [.ref h0] ++ List.replicate (1 - (lg_sl [.ref h0]).length) Slot.unset).toArray = ls at hl ⊢
  have hl : lv_has ls 1 [(0, .ref h0)] := hl
  generalize hQ : MQ below _ args s _ _ _ = Q
  unfold fn_R_removeAll at hF
  refine lv_aload_n hx hb dd_R_removeAll_0 rfl (lv_at hl 0 rfl) ?_
  refine lv_iconst (v := 0) hx hb dd_R_removeAll_1 (by decide) ?_
  refine va_put (D := (dC, dI)) (ci := 0) (v := .int 0) (ty := .int) (C := cn_R) (T := tt_R) (N := 7) hx hb ht in_R ty_R tyok_R nm_R hown hK hP hD hS 0 rfl rfl 4 (by decide) (ht _ tw_1_45) (fun _ h9 => h9) rfl (by decide +kernel) rfl rfl (Nat.le_of_ble_eq_true rfl) dd_R_removeAll_2 (fun H_7 locs_8 hP hD hS => ?_)
  have hP : va_P (dC, dI) vwCl [(h0, .inr (0, [.ref h1, .ref h2, .ref h3, .ref h4, .int 0, .int lo, .int oc])), (h1, .inl (cI, 24, .inl kd)), (h2, .inl (cI, 24, .inl dp)), (h3, .inl (cI, 24, .inl su)), (h4, .inl (cL, 24, .inr (.inl nm)))] H_7 := hP
  have hD : va_D A [(h0, .inr (0, [.ref h1, .ref h2, .ref h3, .ref h4, .int 0, .int lo, .int oc])), (h1, .inl (cI, 24, .inl kd)), (h2, .inl (cI, 24, .inl dp)), (h3, .inl (cI, 24, .inl su)), (h4, .inl (cL, 24, .inr (.inl nm)))] := hD
  refine lv_aload_n hx hb dd_R_removeAll_5 rfl (lv_at hl 0 rfl) ?_
  refine lv_iconst (v := (-1)) hx hb dd_R_removeAll_6 (by decide) ?_
  refine va_put (D := (dC, dI)) (ci := 0) (v := .int (-1)) (ty := .int) (C := cn_R) (T := tt_R) (N := 7) hx hb ht in_R ty_R tyok_R nm_R hown hK hP hD hS 0 rfl rfl 5 (by decide) (ht _ tw_1_46) (fun _ h9 => h9) rfl (by decide +kernel) rfl rfl (Nat.le_of_ble_eq_true rfl) dd_R_removeAll_7 (fun H_9 locs_10 hP hD hS => ?_)
  have hP : va_P (dC, dI) vwCl [(h0, .inr (0, [.ref h1, .ref h2, .ref h3, .ref h4, .int 0, .int (-1), .int oc])), (h1, .inl (cI, 24, .inl kd)), (h2, .inl (cI, 24, .inl dp)), (h3, .inl (cI, 24, .inl su)), (h4, .inl (cL, 24, .inr (.inl nm)))] H_9 := hP
  have hD : va_D A [(h0, .inr (0, [.ref h1, .ref h2, .ref h3, .ref h4, .int 0, .int (-1), .int oc])), (h1, .inl (cI, 24, .inl kd)), (h2, .inl (cI, 24, .inl dp)), (h3, .inl (cI, 24, .inl su)), (h4, .inl (cL, 24, .inr (.inl nm)))] := hD
  refine lv_aload_n hx hb dd_R_removeAll_10 rfl (lv_at hl 0 rfl) ?_
  refine lv_iconst (v := 0) hx hb dd_R_removeAll_11 (by decide) ?_
  refine va_put (D := (dC, dI)) (ci := 0) (v := .int 0) (ty := .int) (C := cn_R) (T := tt_R) (N := 7) hx hb ht in_R ty_R tyok_R nm_R hown hK hP hD hS 0 rfl rfl 6 (by decide) (ht _ tw_1_47) (fun _ h9 => h9) rfl (by decide +kernel) rfl rfl (Nat.le_of_ble_eq_true rfl) dd_R_removeAll_12 (fun H_11 locs_12 hP hD hS => ?_)
  have hP : va_P (dC, dI) vwCl [(h0, .inr (0, [.ref h1, .ref h2, .ref h3, .ref h4, .int 0, .int (-1), .int 0])), (h1, .inl (cI, 24, .inl kd)), (h2, .inl (cI, 24, .inl dp)), (h3, .inl (cI, 24, .inl su)), (h4, .inl (cL, 24, .inr (.inl nm)))] H_11 := hP
  have hD : va_D A [(h0, .inr (0, [.ref h1, .ref h2, .ref h3, .ref h4, .int 0, .int (-1), .int 0])), (h1, .inl (cI, 24, .inl kd)), (h2, .inl (cI, 24, .inl dp)), (h3, .inl (cI, 24, .inl su)), (h4, .inl (cL, 24, .inr (.inl nm)))] := hD
  subst hQ
  obtain rfl := Option.some.inj hF
  exact W.vret hx hb hr (fun t ht hW => ⟨⟨(), rfl, trivial, by rw [ht]; exact hP, va_K.moved hW.alike hK, hD⟩, hS.F ht⟩) hS.2.2 dd_R_removeAll_15
set_option maxHeartbeats 40000000 in
set_option maxRecDepth 100000 in
theorem c_R_size (l : Launch) (dC : Nat → ClassId) (dI : Nat → Nat → Nat) (cI cL cC cZ : ClassId) (h0 h1 h2 h3 h4 : Nat) (sz : Nat) (ct : Int32) (lo : Int32) (oc : Int32) (kd : Nat → Int32) (dp : Nat → Int32) (su : Nat → Int32) (nm : Nat → Int64)  (out : Int32) (hF : fn_R_size ct = some out) : Met l yy_R_size ws_R_size { frames := 0, cells := 0, slots := 0, locals := 0 } (mP_ (dC, dI) (tk_ cI cL cC cZ) [(h0, .inr (0, [.ref h1, .ref h2, .ref h3, .ref h4, .int ct, .int lo, .int oc])), (h1, .inl (cI, 24, .inl kd)), (h2, .inl (cI, 24, .inl dp)), (h3, .inl (cI, 24, .inl su)), (h4, .inl (cL, 24, .inr (.inl nm)))] sz [.ref h0]) (vp_Si (fun r => r = out)) 0 0 (fun _ => False) := by
  refine Met.ofW (cc := cc_R_size) (maxL := 1) (ret := (some .int)) (by decide) rfl ?_
  intro p e s m args below meth c s₁ B hml hv
  obtain ⟨hargs, hsz, hP, hK, hD0⟩ := hv
  have hx := B.exec
  have hb := B.bytes
  have hr := B.returns
  have hts := atoms_spec (ws := ws_R_size) B.pre
  have ht : ∀ w ∈ TB_, w.before args s = true := fun w h => hts w (List.mem_cons_of_mem _ h)
  have hown : s.vm.findClass cn_R = some m.cls := findClass_of_methodNamed B.named
  have hlocks := B.notSynchronized
  subst hsz
  have hD := hD0.self (sz := s.heap.size)
  generalize hAe : va_A [(h0, .inr (0, [.ref h1, .ref h2, .ref h3, .ref h4, .int ct, .int lo, .int oc])), (h1, .inl (cI, 24, .inl kd)), (h2, .inl (cI, 24, .inl dp)), (h3, .inl (cI, 24, .inl su)), (h4, .inl (cL, 24, .inr (.inl nm)))] s.heap.size = A at hD
  have hA : ∀ q : Nat, s.heap.size ≤ q → A q := fun q h => by rw [← hAe]; exact Or.inr h
  have hS : va_S A s.heap s.heap [] := va_S.rf
  have hP : va_P (dC, dI) vwCl [(h0, .inr (0, [.ref h1, .ref h2, .ref h3, .ref h4, .int ct, .int lo, .int oc])), (h1, .inl (cI, 24, .inl kd)), (h2, .inl (cI, 24, .inl dp)), (h3, .inl (cI, 24, .inl su)), (h4, .inl (cL, 24, .inr (.inl nm)))] s.heap := hP
  have hl := lv_entry [.ref h0] (n := 1) (Nat.le_of_ble_eq_true rfl)
  have he : entryFrame m args 1 = _ := (congrArg (fun a => entryFrame m a 1) hargs).trans (lg_entry_eq m [.ref h0] 1)
  rw [he]
  generalize (lg_sl [.ref h0] ++ List.replicate (1 - (lg_sl [.ref h0]).length) Slot.unset).toArray = ls at hl ⊢
  have hl : lv_has ls 1 [(0, .ref h0)] := hl
  generalize hQ : MQ below _ args s _ _ _ = Q
  unfold fn_R_size at hF
  refine lv_aload_n hx hb dd_R_size_0 rfl (lv_at hl 0 rfl) ?_
  refine va_get (D := (dC, dI)) (ci := 0) (v := .int ct) (C := cn_R) (T := tt_R) (N := 7) hx hb ht in_R hown hK hP 0 rfl rfl 4 (by decide) (ht _ tw_1_45) (fun _ h9 => h9) rfl dd_R_size_1 ?_
  subst hQ
  exact W.iret (v := ct) hx hb hr (fun t ht hW => ⟨ct, rfl, (Option.some.inj hF), ht⟩) (fun _ h => by cases h) dd_R_size_4
set_option maxHeartbeats 40000000 in
set_option maxRecDepth 100000 in
theorem c_R_has (l : Launch) (dC : Nat → ClassId) (dI : Nat → Nat → Nat) (cI cL cC cZ : ClassId) (h0 h1 h2 h3 h4 : Nat) (sz : Nat) (ct : Int32) (lo : Int32) (oc : Int32) (kd : Nat → Int32) (dp : Nat → Int32) (su : Nat → Int32) (nm : Nat → Int64) (x1 : Int32) (out : Int32) (hF : fn_R_has ct x1 = some out) : Met l yy_R_has ws_R_has { frames := 0, cells := 0, slots := 0, locals := 0 } (mP_ (dC, dI) (tk_ cI cL cC cZ) [(h0, .inr (0, [.ref h1, .ref h2, .ref h3, .ref h4, .int ct, .int lo, .int oc])), (h1, .inl (cI, 24, .inl kd)), (h2, .inl (cI, 24, .inl dp)), (h3, .inl (cI, 24, .inl su)), (h4, .inl (cL, 24, .inr (.inl nm)))] sz [.ref h0, .int x1]) (vp_Si (fun r => r = out)) 0 0 (fun _ => False) := by
  refine Met.ofW (cc := cc_R_has) (maxL := 2) (ret := (some .boolean)) (by decide) rfl ?_
  intro p e s m args below meth c s₁ B hml hv
  obtain ⟨hargs, hsz, hP, hK, hD0⟩ := hv
  have hx := B.exec
  have hb := B.bytes
  have hr := B.returns
  have hts := atoms_spec (ws := ws_R_has) B.pre
  have ht : ∀ w ∈ TB_, w.before args s = true := fun w h => hts w (List.mem_cons_of_mem _ h)
  have hown : s.vm.findClass cn_R = some m.cls := findClass_of_methodNamed B.named
  have hlocks := B.notSynchronized
  subst hsz
  have hD := hD0.self (sz := s.heap.size)
  generalize hAe : va_A [(h0, .inr (0, [.ref h1, .ref h2, .ref h3, .ref h4, .int ct, .int lo, .int oc])), (h1, .inl (cI, 24, .inl kd)), (h2, .inl (cI, 24, .inl dp)), (h3, .inl (cI, 24, .inl su)), (h4, .inl (cL, 24, .inr (.inl nm)))] s.heap.size = A at hD
  have hA : ∀ q : Nat, s.heap.size ≤ q → A q := fun q h => by rw [← hAe]; exact Or.inr h
  have hS : va_S A s.heap s.heap [] := va_S.rf
  have hP : va_P (dC, dI) vwCl [(h0, .inr (0, [.ref h1, .ref h2, .ref h3, .ref h4, .int ct, .int lo, .int oc])), (h1, .inl (cI, 24, .inl kd)), (h2, .inl (cI, 24, .inl dp)), (h3, .inl (cI, 24, .inl su)), (h4, .inl (cL, 24, .inr (.inl nm)))] s.heap := hP
  have hl := lv_entry [.ref h0, .int x1] (n := 2) (Nat.le_of_ble_eq_true rfl)
  have he : entryFrame m args 2 = _ := (congrArg (fun a => entryFrame m a 2) hargs).trans (lg_entry_eq m [.ref h0, .int x1] 2)
  rw [he]
  generalize (lg_sl [.ref h0, .int x1] ++ List.replicate (2 - (lg_sl [.ref h0, .int x1]).length) Slot.unset).toArray = ls at hl ⊢
  have hl : lv_has ls 2 [(0, .ref h0), (1, .int x1)] := hl
  generalize hQ : MQ below _ args s _ _ _ = Q
  unfold fn_R_has at hF
  refine lv_iload_n hx hb dd_R_has_0 rfl (lv_at hl 1 rfl) ?_
  refine lv_if_lt (tgt := 16) hx hb dd_R_has_1 (by decide) (fun c_3 => ?_) (fun c_3 => ?_)
  · have hF := jv_t c_3 hF
    refine lv_iconst (v := 0) hx hb dd_R_has_16 (by decide) ?_
    subst hQ
    exact W.zret (v := 0) hx hb hr rfl (fun t ht hW => ⟨0, rfl, (Option.some.inj hF), ht⟩) (fun _ h => by cases h) dd_R_has_17
  · have hF := jv_f c_3 hF
    refine lv_iload_n hx hb dd_R_has_4 rfl (lv_at hl 1 rfl) ?_
    refine lv_aload_n hx hb dd_R_has_5 rfl (lv_at hl 0 rfl) ?_
    refine va_get (D := (dC, dI)) (ci := 0) (v := .int ct) (C := cn_R) (T := tt_R) (N := 7) hx hb ht in_R hown hK hP 0 rfl rfl 4 (by decide) (ht _ tw_1_45) (fun _ h9 => h9) rfl dd_R_has_6 ?_
    refine lv_icmp_ge (tgt := 16) hx hb dd_R_has_9 (by decide) (fun c_4 => ?_) (fun c_4 => ?_)
    · have hF := jv_t c_4 hF
      refine lv_iconst (v := 0) hx hb dd_R_has_16 (by decide) ?_
      subst hQ
      exact W.zret (v := 0) hx hb hr rfl (fun t ht hW => ⟨0, rfl, (Option.some.inj hF), ht⟩) (fun _ h => by cases h) dd_R_has_17
    · have hF := jv_f c_4 hF
      refine lv_iconst (v := 1) hx hb dd_R_has_12 (by decide) ?_
      refine lv_goto (tgt := 17) hx hb dd_R_has_13 (by decide) ?_
      subst hQ
      exact W.zret (v := 1) hx hb hr rfl (fun t ht hW => ⟨1, rfl, (Option.some.inj hF), ht⟩) (fun _ h => by cases h) dd_R_has_17
set_option maxHeartbeats 40000000 in
set_option maxRecDepth 100000 in
theorem c_R_isTest (l : Launch) (dC : Nat → ClassId) (dI : Nat → Nat → Nat) (cI cL cC cZ : ClassId) (h0 h1 h2 h3 h4 : Nat) (sz : Nat) (ct : Int32) (lo : Int32) (oc : Int32) (kd : Nat → Int32) (dp : Nat → Int32) (su : Nat → Int32) (nm : Nat → Int64) (x1 : Int32) (out : Int32) (hF : fn_R_isTest ct kd x1 = some out) : Met l yy_R_isTest ws_R_isTest { frames := 1, cells := 0, slots := 0, locals := 21 } (mP_ (dC, dI) (tk_ cI cL cC cZ) [(h0, .inr (0, [.ref h1, .ref h2, .ref h3, .ref h4, .int ct, .int lo, .int oc])), (h1, .inl (cI, 24, .inl kd)), (h2, .inl (cI, 24, .inl dp)), (h3, .inl (cI, 24, .inl su)), (h4, .inl (cL, 24, .inr (.inl nm)))] sz [.ref h0, .int x1]) (vp_Si (fun r => r = out)) 0 0 (fun _ => False) := by
  refine Met.ofW (cc := cc_R_isTest) (maxL := 2) (ret := (some .boolean)) (by decide) rfl ?_
  intro p e s m args below meth c s₁ B hml hv
  obtain ⟨hargs, hsz, hP, hK, hD0⟩ := hv
  have hx := B.exec
  have hb := B.bytes
  have hr := B.returns
  have hts := atoms_spec (ws := ws_R_isTest) B.pre
  have ht : ∀ w ∈ TB_, w.before args s = true := fun w h => hts w (List.mem_cons_of_mem _ h)
  have hown : s.vm.findClass cn_R = some m.cls := findClass_of_methodNamed B.named
  have hlocks := B.notSynchronized
  subst hsz
  have hD := hD0.self (sz := s.heap.size)
  generalize hAe : va_A [(h0, .inr (0, [.ref h1, .ref h2, .ref h3, .ref h4, .int ct, .int lo, .int oc])), (h1, .inl (cI, 24, .inl kd)), (h2, .inl (cI, 24, .inl dp)), (h3, .inl (cI, 24, .inl su)), (h4, .inl (cL, 24, .inr (.inl nm)))] s.heap.size = A at hD
  have hA : ∀ q : Nat, s.heap.size ≤ q → A q := fun q h => by rw [← hAe]; exact Or.inr h
  have hS : va_S A s.heap s.heap [] := va_S.rf
  have hP : va_P (dC, dI) vwCl [(h0, .inr (0, [.ref h1, .ref h2, .ref h3, .ref h4, .int ct, .int lo, .int oc])), (h1, .inl (cI, 24, .inl kd)), (h2, .inl (cI, 24, .inl dp)), (h3, .inl (cI, 24, .inl su)), (h4, .inl (cL, 24, .inr (.inl nm)))] s.heap := hP
  have hl := lv_entry [.ref h0, .int x1] (n := 2) (Nat.le_of_ble_eq_true rfl)
  have he : entryFrame m args 2 = _ := (congrArg (fun a => entryFrame m a 2) hargs).trans (lg_entry_eq m [.ref h0, .int x1] 2)
  rw [he]
  generalize (lg_sl [.ref h0, .int x1] ++ List.replicate (2 - (lg_sl [.ref h0, .int x1]).length) Slot.unset).toArray = ls at hl ⊢
  have hl : lv_has ls 2 [(0, .ref h0), (1, .int x1)] := hl
  generalize hQ : MQ below _ args s _ _ _ = Q
  unfold fn_R_isTest at hF
  refine lv_aload_n hx hb dd_R_isTest_0 rfl (lv_at hl 0 rfl) ?_
  refine lv_iload_n hx hb dd_R_isTest_1 rfl (lv_at hl 1 rfl) ?_
  obtain ⟨o_2, ho_2, hF⟩ := jv_bi hF
  refine jv_ci (va_runV (C := cn_R) (As := [.int x1]) (rest := []) ⟨hx, hb, hml, hown, ht⟩ (c_R_has l dC dI cI cL cC cZ h0 h1 h2 h3 h4 s.heap.size ct lo oc kd dp su nm x1 _ ho_2) (cwV 1 ht (gi_V tw_1_114 tw_1_115 tw_1_116 tw_1_3 tw_1_117) rfl rfl rfl (by decide +kernel) ⟨Nat.le_of_ble_eq_true rfl, Nat.le_of_ble_eq_true rfl⟩) (jv_pv hK hP hD [0, 1, 2, 3, 4] rfl (by decide) rfl (va_recv hK hP (ci := 0) (q0 := 0) rfl rfl)) rfl rfl hl.1 rfl (lv_room (Nat.le_of_ble_eq_true rfl)) dd_R_isTest_2 ⟨Nat.le_of_ble_eq_true rfl, Nat.le_of_ble_eq_true rfl⟩) ?_
  refine lv_if_eq (tgt := 22) hx hb dd_R_isTest_5 (by decide) (fun c_4 => ?_) (fun c_4 => ?_)
  · have hF := jv_t c_4 hF
    refine lv_iconst (v := 0) hx hb dd_R_isTest_22 (by decide) ?_
    subst hQ
    exact W.zret (v := 0) hx hb hr rfl (fun t ht hW => ⟨0, rfl, (Option.some.inj hF), ht⟩) (fun _ h => by cases h) dd_R_isTest_23
  · have hF := jv_f c_4 hF
    refine lv_aload_n hx hb dd_R_isTest_8 rfl (lv_at hl 0 rfl) ?_
    refine va_get (D := (dC, dI)) (ci := 0) (v := .ref h1) (C := cn_R) (T := tt_R) (N := 7) hx hb ht in_R hown hK hP 0 rfl rfl 0 (by decide) (ht _ tw_1_41) (fun _ h9 => h9) rfl dd_R_isTest_9 ?_
    refine lv_iload_n hx hb dd_R_isTest_12 rfl (lv_at hl 1 rfl) ?_
    obtain ⟨g_5, hF⟩ := jv_gi hF
    refine va_iald hx hb hK hP 1 0 rfl rfl (jv_in g_5) dd_R_isTest_13 ?_
    refine lv_iconst (v := 3) hx hb dd_R_isTest_14 (by decide) ?_
    refine lv_icmp_gt (tgt := 22) hx hb dd_R_isTest_15 (by decide) (fun c_6 => ?_) (fun c_6 => ?_)
    · have hF := jv_t c_6 hF
      refine lv_iconst (v := 0) hx hb dd_R_isTest_22 (by decide) ?_
      subst hQ
      exact W.zret (v := 0) hx hb hr rfl (fun t ht hW => ⟨0, rfl, (Option.some.inj hF), ht⟩) (fun _ h => by cases h) dd_R_isTest_23
    · have hF := jv_f c_6 hF
      refine lv_iconst (v := 1) hx hb dd_R_isTest_18 (by decide) ?_
      refine lv_goto (tgt := 23) hx hb dd_R_isTest_19 (by decide) ?_
      subst hQ
      exact W.zret (v := 1) hx hb hr rfl (fun t ht hW => ⟨1, rfl, (Option.some.inj hF), ht⟩) (fun _ h => by cases h) dd_R_isTest_23
set_option maxHeartbeats 40000000 in
set_option maxRecDepth 100000 in
theorem c_R_kindOf (l : Launch) (dC : Nat → ClassId) (dI : Nat → Nat → Nat) (cI cL cC cZ : ClassId) (h0 h1 h2 h3 h4 : Nat) (sz : Nat) (ct : Int32) (lo : Int32) (oc : Int32) (kd : Nat → Int32) (dp : Nat → Int32) (su : Nat → Int32) (nm : Nat → Int64) (x1 : Int32) (out : Int32) (hF : fn_R_kindOf ct kd x1 = some out) : Met l yy_R_kindOf ws_R_kindOf { frames := 1, cells := 0, slots := 0, locals := 21 } (mP_ (dC, dI) (tk_ cI cL cC cZ) [(h0, .inr (0, [.ref h1, .ref h2, .ref h3, .ref h4, .int ct, .int lo, .int oc])), (h1, .inl (cI, 24, .inl kd)), (h2, .inl (cI, 24, .inl dp)), (h3, .inl (cI, 24, .inl su)), (h4, .inl (cL, 24, .inr (.inl nm)))] sz [.ref h0, .int x1]) (vp_Si (fun r => r = out)) 0 0 (fun _ => False) := by
  refine Met.ofW (cc := cc_R_kindOf) (maxL := 2) (ret := (some .int)) (by decide) rfl ?_
  intro p e s m args below meth c s₁ B hml hv
  obtain ⟨hargs, hsz, hP, hK, hD0⟩ := hv
  have hx := B.exec
  have hb := B.bytes
  have hr := B.returns
  have hts := atoms_spec (ws := ws_R_kindOf) B.pre
  have ht : ∀ w ∈ TB_, w.before args s = true := fun w h => hts w (List.mem_cons_of_mem _ h)
  have hown : s.vm.findClass cn_R = some m.cls := findClass_of_methodNamed B.named
  have hlocks := B.notSynchronized
  subst hsz
  have hD := hD0.self (sz := s.heap.size)
  generalize hAe : va_A [(h0, .inr (0, [.ref h1, .ref h2, .ref h3, .ref h4, .int ct, .int lo, .int oc])), (h1, .inl (cI, 24, .inl kd)), (h2, .inl (cI, 24, .inl dp)), (h3, .inl (cI, 24, .inl su)), (h4, .inl (cL, 24, .inr (.inl nm)))] s.heap.size = A at hD
  have hA : ∀ q : Nat, s.heap.size ≤ q → A q := fun q h => by rw [← hAe]; exact Or.inr h
  have hS : va_S A s.heap s.heap [] := va_S.rf
  have hP : va_P (dC, dI) vwCl [(h0, .inr (0, [.ref h1, .ref h2, .ref h3, .ref h4, .int ct, .int lo, .int oc])), (h1, .inl (cI, 24, .inl kd)), (h2, .inl (cI, 24, .inl dp)), (h3, .inl (cI, 24, .inl su)), (h4, .inl (cL, 24, .inr (.inl nm)))] s.heap := hP
  have hl := lv_entry [.ref h0, .int x1] (n := 2) (Nat.le_of_ble_eq_true rfl)
  have he : entryFrame m args 2 = _ := (congrArg (fun a => entryFrame m a 2) hargs).trans (lg_entry_eq m [.ref h0, .int x1] 2)
  rw [he]
  generalize (lg_sl [.ref h0, .int x1] ++ List.replicate (2 - (lg_sl [.ref h0, .int x1]).length) Slot.unset).toArray = ls at hl ⊢
  have hl : lv_has ls 2 [(0, .ref h0), (1, .int x1)] := hl
  generalize hQ : MQ below _ args s _ _ _ = Q
  unfold fn_R_kindOf at hF
  refine lv_aload_n hx hb dd_R_kindOf_0 rfl (lv_at hl 0 rfl) ?_
  refine lv_iload_n hx hb dd_R_kindOf_1 rfl (lv_at hl 1 rfl) ?_
  obtain ⟨o_2, ho_2, hF⟩ := jv_bi hF
  refine jv_ci (va_runV (C := cn_R) (As := [.int x1]) (rest := []) ⟨hx, hb, hml, hown, ht⟩ (c_R_has l dC dI cI cL cC cZ h0 h1 h2 h3 h4 s.heap.size ct lo oc kd dp su nm x1 _ ho_2) (cwV 1 ht (gi_V tw_1_114 tw_1_115 tw_1_116 tw_1_3 tw_1_117) rfl rfl rfl (by decide +kernel) ⟨Nat.le_of_ble_eq_true rfl, Nat.le_of_ble_eq_true rfl⟩) (jv_pv hK hP hD [0, 1, 2, 3, 4] rfl (by decide) rfl (va_recv hK hP (ci := 0) (q0 := 0) rfl rfl)) rfl rfl hl.1 rfl (lv_room (Nat.le_of_ble_eq_true rfl)) dd_R_kindOf_2 ⟨Nat.le_of_ble_eq_true rfl, Nat.le_of_ble_eq_true rfl⟩) ?_
  refine lv_if_eq (tgt := 17) hx hb dd_R_kindOf_5 (by decide) (fun c_3 => ?_) (fun c_3 => ?_)
  · have hF := jv_t c_3 hF
    refine lv_iconst (v := (-1)) hx hb dd_R_kindOf_17 (by decide) ?_
    subst hQ
    exact W.iret (v := (-1)) hx hb hr (fun t ht hW => ⟨(-1), rfl, (Option.some.inj hF), ht⟩) (fun _ h => by cases h) dd_R_kindOf_18
  · have hF := jv_f c_3 hF
    refine lv_aload_n hx hb dd_R_kindOf_8 rfl (lv_at hl 0 rfl) ?_
    refine va_get (D := (dC, dI)) (ci := 0) (v := .ref h1) (C := cn_R) (T := tt_R) (N := 7) hx hb ht in_R hown hK hP 0 rfl rfl 0 (by decide) (ht _ tw_1_41) (fun _ h9 => h9) rfl dd_R_kindOf_9 ?_
    refine lv_iload_n hx hb dd_R_kindOf_12 rfl (lv_at hl 1 rfl) ?_
    obtain ⟨g_4, hF⟩ := jv_gi hF
    refine va_iald hx hb hK hP 1 0 rfl rfl (jv_in g_4) dd_R_kindOf_13 ?_
    refine lv_goto (tgt := 18) hx hb dd_R_kindOf_14 (by decide) ?_
    subst hQ
    exact W.iret (v := kd x1.toNatClampNeg) hx hb hr (fun t ht hW => ⟨kd x1.toNatClampNeg, rfl, (Option.some.inj hF), ht⟩) (fun _ h => by cases h) dd_R_kindOf_18
set_option maxHeartbeats 40000000 in
set_option maxRecDepth 100000 in
theorem c_R_depthOf (l : Launch) (dC : Nat → ClassId) (dI : Nat → Nat → Nat) (cI cL cC cZ : ClassId) (h0 h1 h2 h3 h4 : Nat) (sz : Nat) (ct : Int32) (lo : Int32) (oc : Int32) (kd : Nat → Int32) (dp : Nat → Int32) (su : Nat → Int32) (nm : Nat → Int64) (x1 : Int32) (out : Int32) (hF : fn_R_depthOf ct dp x1 = some out) : Met l yy_R_depthOf ws_R_depthOf { frames := 1, cells := 0, slots := 0, locals := 21 } (mP_ (dC, dI) (tk_ cI cL cC cZ) [(h0, .inr (0, [.ref h1, .ref h2, .ref h3, .ref h4, .int ct, .int lo, .int oc])), (h1, .inl (cI, 24, .inl kd)), (h2, .inl (cI, 24, .inl dp)), (h3, .inl (cI, 24, .inl su)), (h4, .inl (cL, 24, .inr (.inl nm)))] sz [.ref h0, .int x1]) (vp_Si (fun r => r = out)) 0 0 (fun _ => False) := by
  refine Met.ofW (cc := cc_R_depthOf) (maxL := 2) (ret := (some .int)) (by decide) rfl ?_
  intro p e s m args below meth c s₁ B hml hv
  obtain ⟨hargs, hsz, hP, hK, hD0⟩ := hv
  have hx := B.exec
  have hb := B.bytes
  have hr := B.returns
  have hts := atoms_spec (ws := ws_R_depthOf) B.pre
  have ht : ∀ w ∈ TB_, w.before args s = true := fun w h => hts w (List.mem_cons_of_mem _ h)
  have hown : s.vm.findClass cn_R = some m.cls := findClass_of_methodNamed B.named
  have hlocks := B.notSynchronized
  subst hsz
  have hD := hD0.self (sz := s.heap.size)
  generalize hAe : va_A [(h0, .inr (0, [.ref h1, .ref h2, .ref h3, .ref h4, .int ct, .int lo, .int oc])), (h1, .inl (cI, 24, .inl kd)), (h2, .inl (cI, 24, .inl dp)), (h3, .inl (cI, 24, .inl su)), (h4, .inl (cL, 24, .inr (.inl nm)))] s.heap.size = A at hD
  have hA : ∀ q : Nat, s.heap.size ≤ q → A q := fun q h => by rw [← hAe]; exact Or.inr h
  have hS : va_S A s.heap s.heap [] := va_S.rf
  have hP : va_P (dC, dI) vwCl [(h0, .inr (0, [.ref h1, .ref h2, .ref h3, .ref h4, .int ct, .int lo, .int oc])), (h1, .inl (cI, 24, .inl kd)), (h2, .inl (cI, 24, .inl dp)), (h3, .inl (cI, 24, .inl su)), (h4, .inl (cL, 24, .inr (.inl nm)))] s.heap := hP
  have hl := lv_entry [.ref h0, .int x1] (n := 2) (Nat.le_of_ble_eq_true rfl)
  have he : entryFrame m args 2 = _ := (congrArg (fun a => entryFrame m a 2) hargs).trans (lg_entry_eq m [.ref h0, .int x1] 2)
  rw [he]
  generalize (lg_sl [.ref h0, .int x1] ++ List.replicate (2 - (lg_sl [.ref h0, .int x1]).length) Slot.unset).toArray = ls at hl ⊢
  have hl : lv_has ls 2 [(0, .ref h0), (1, .int x1)] := hl
  generalize hQ : MQ below _ args s _ _ _ = Q
  unfold fn_R_depthOf at hF
  refine lv_aload_n hx hb dd_R_depthOf_0 rfl (lv_at hl 0 rfl) ?_
  refine lv_iload_n hx hb dd_R_depthOf_1 rfl (lv_at hl 1 rfl) ?_
  obtain ⟨o_2, ho_2, hF⟩ := jv_bi hF
  refine jv_ci (va_runV (C := cn_R) (As := [.int x1]) (rest := []) ⟨hx, hb, hml, hown, ht⟩ (c_R_has l dC dI cI cL cC cZ h0 h1 h2 h3 h4 s.heap.size ct lo oc kd dp su nm x1 _ ho_2) (cwV 1 ht (gi_V tw_1_114 tw_1_115 tw_1_116 tw_1_3 tw_1_117) rfl rfl rfl (by decide +kernel) ⟨Nat.le_of_ble_eq_true rfl, Nat.le_of_ble_eq_true rfl⟩) (jv_pv hK hP hD [0, 1, 2, 3, 4] rfl (by decide) rfl (va_recv hK hP (ci := 0) (q0 := 0) rfl rfl)) rfl rfl hl.1 rfl (lv_room (Nat.le_of_ble_eq_true rfl)) dd_R_depthOf_2 ⟨Nat.le_of_ble_eq_true rfl, Nat.le_of_ble_eq_true rfl⟩) ?_
  refine lv_if_eq (tgt := 17) hx hb dd_R_depthOf_5 (by decide) (fun c_3 => ?_) (fun c_3 => ?_)
  · have hF := jv_t c_3 hF
    refine lv_iconst (v := (-1)) hx hb dd_R_depthOf_17 (by decide) ?_
    subst hQ
    exact W.iret (v := (-1)) hx hb hr (fun t ht hW => ⟨(-1), rfl, (Option.some.inj hF), ht⟩) (fun _ h => by cases h) dd_R_depthOf_18
  · have hF := jv_f c_3 hF
    refine lv_aload_n hx hb dd_R_depthOf_8 rfl (lv_at hl 0 rfl) ?_
    refine va_get (D := (dC, dI)) (ci := 0) (v := .ref h2) (C := cn_R) (T := tt_R) (N := 7) hx hb ht in_R hown hK hP 0 rfl rfl 1 (by decide) (ht _ tw_1_42) (fun _ h9 => h9) rfl dd_R_depthOf_9 ?_
    refine lv_iload_n hx hb dd_R_depthOf_12 rfl (lv_at hl 1 rfl) ?_
    obtain ⟨g_4, hF⟩ := jv_gi hF
    refine va_iald hx hb hK hP 2 0 rfl rfl (jv_in g_4) dd_R_depthOf_13 ?_
    refine lv_goto (tgt := 18) hx hb dd_R_depthOf_14 (by decide) ?_
    subst hQ
    exact W.iret (v := dp x1.toNatClampNeg) hx hb hr (fun t ht hW => ⟨dp x1.toNatClampNeg, rfl, (Option.some.inj hF), ht⟩) (fun _ h => by cases h) dd_R_depthOf_18
set_option maxHeartbeats 40000000 in
set_option maxRecDepth 100000 in
theorem c_R_suiteOf (l : Launch) (dC : Nat → ClassId) (dI : Nat → Nat → Nat) (cI cL cC cZ : ClassId) (h0 h1 h2 h3 h4 : Nat) (sz : Nat) (ct : Int32) (lo : Int32) (oc : Int32) (kd : Nat → Int32) (dp : Nat → Int32) (su : Nat → Int32) (nm : Nat → Int64) (x1 : Int32) (out : Int32) (hF : fn_R_suiteOf ct su x1 = some out) : Met l yy_R_suiteOf ws_R_suiteOf { frames := 1, cells := 0, slots := 0, locals := 21 } (mP_ (dC, dI) (tk_ cI cL cC cZ) [(h0, .inr (0, [.ref h1, .ref h2, .ref h3, .ref h4, .int ct, .int lo, .int oc])), (h1, .inl (cI, 24, .inl kd)), (h2, .inl (cI, 24, .inl dp)), (h3, .inl (cI, 24, .inl su)), (h4, .inl (cL, 24, .inr (.inl nm)))] sz [.ref h0, .int x1]) (vp_Si (fun r => r = out)) 0 0 (fun _ => False) := by
  refine Met.ofW (cc := cc_R_suiteOf) (maxL := 2) (ret := (some .int)) (by decide) rfl ?_
  intro p e s m args below meth c s₁ B hml hv
  obtain ⟨hargs, hsz, hP, hK, hD0⟩ := hv
  have hx := B.exec
  have hb := B.bytes
  have hr := B.returns
  have hts := atoms_spec (ws := ws_R_suiteOf) B.pre
  have ht : ∀ w ∈ TB_, w.before args s = true := fun w h => hts w (List.mem_cons_of_mem _ h)
  have hown : s.vm.findClass cn_R = some m.cls := findClass_of_methodNamed B.named
  have hlocks := B.notSynchronized
  subst hsz
  have hD := hD0.self (sz := s.heap.size)
  generalize hAe : va_A [(h0, .inr (0, [.ref h1, .ref h2, .ref h3, .ref h4, .int ct, .int lo, .int oc])), (h1, .inl (cI, 24, .inl kd)), (h2, .inl (cI, 24, .inl dp)), (h3, .inl (cI, 24, .inl su)), (h4, .inl (cL, 24, .inr (.inl nm)))] s.heap.size = A at hD
  have hA : ∀ q : Nat, s.heap.size ≤ q → A q := fun q h => by rw [← hAe]; exact Or.inr h
  have hS : va_S A s.heap s.heap [] := va_S.rf
  have hP : va_P (dC, dI) vwCl [(h0, .inr (0, [.ref h1, .ref h2, .ref h3, .ref h4, .int ct, .int lo, .int oc])), (h1, .inl (cI, 24, .inl kd)), (h2, .inl (cI, 24, .inl dp)), (h3, .inl (cI, 24, .inl su)), (h4, .inl (cL, 24, .inr (.inl nm)))] s.heap := hP
  have hl := lv_entry [.ref h0, .int x1] (n := 2) (Nat.le_of_ble_eq_true rfl)
  have he : entryFrame m args 2 = _ := (congrArg (fun a => entryFrame m a 2) hargs).trans (lg_entry_eq m [.ref h0, .int x1] 2)
  rw [he]
  generalize (lg_sl [.ref h0, .int x1] ++ List.replicate (2 - (lg_sl [.ref h0, .int x1]).length) Slot.unset).toArray = ls at hl ⊢
  have hl : lv_has ls 2 [(0, .ref h0), (1, .int x1)] := hl
  generalize hQ : MQ below _ args s _ _ _ = Q
  unfold fn_R_suiteOf at hF
  refine lv_aload_n hx hb dd_R_suiteOf_0 rfl (lv_at hl 0 rfl) ?_
  refine lv_iload_n hx hb dd_R_suiteOf_1 rfl (lv_at hl 1 rfl) ?_
  obtain ⟨o_2, ho_2, hF⟩ := jv_bi hF
  refine jv_ci (va_runV (C := cn_R) (As := [.int x1]) (rest := []) ⟨hx, hb, hml, hown, ht⟩ (c_R_has l dC dI cI cL cC cZ h0 h1 h2 h3 h4 s.heap.size ct lo oc kd dp su nm x1 _ ho_2) (cwV 1 ht (gi_V tw_1_114 tw_1_115 tw_1_116 tw_1_3 tw_1_117) rfl rfl rfl (by decide +kernel) ⟨Nat.le_of_ble_eq_true rfl, Nat.le_of_ble_eq_true rfl⟩) (jv_pv hK hP hD [0, 1, 2, 3, 4] rfl (by decide) rfl (va_recv hK hP (ci := 0) (q0 := 0) rfl rfl)) rfl rfl hl.1 rfl (lv_room (Nat.le_of_ble_eq_true rfl)) dd_R_suiteOf_2 ⟨Nat.le_of_ble_eq_true rfl, Nat.le_of_ble_eq_true rfl⟩) ?_
  refine lv_if_eq (tgt := 17) hx hb dd_R_suiteOf_5 (by decide) (fun c_3 => ?_) (fun c_3 => ?_)
  · have hF := jv_t c_3 hF
    refine lv_iconst (v := (-1)) hx hb dd_R_suiteOf_17 (by decide) ?_
    subst hQ
    exact W.iret (v := (-1)) hx hb hr (fun t ht hW => ⟨(-1), rfl, (Option.some.inj hF), ht⟩) (fun _ h => by cases h) dd_R_suiteOf_18
  · have hF := jv_f c_3 hF
    refine lv_aload_n hx hb dd_R_suiteOf_8 rfl (lv_at hl 0 rfl) ?_
    refine va_get (D := (dC, dI)) (ci := 0) (v := .ref h3) (C := cn_R) (T := tt_R) (N := 7) hx hb ht in_R hown hK hP 0 rfl rfl 2 (by decide) (ht _ tw_1_43) (fun _ h9 => h9) rfl dd_R_suiteOf_9 ?_
    refine lv_iload_n hx hb dd_R_suiteOf_12 rfl (lv_at hl 1 rfl) ?_
    obtain ⟨g_4, hF⟩ := jv_gi hF
    refine va_iald hx hb hK hP 3 0 rfl rfl (jv_in g_4) dd_R_suiteOf_13 ?_
    refine lv_goto (tgt := 18) hx hb dd_R_suiteOf_14 (by decide) ?_
    subst hQ
    exact W.iret (v := su x1.toNatClampNeg) hx hb hr (fun t ht hW => ⟨su x1.toNatClampNeg, rfl, (Option.some.inj hF), ht⟩) (fun _ h => by cases h) dd_R_suiteOf_18
set_option maxHeartbeats 40000000 in
set_option maxRecDepth 100000 in
theorem c_R_nameOf (l : Launch) (dC : Nat → ClassId) (dI : Nat → Nat → Nat) (cI cL cC cZ : ClassId) (h0 h1 h2 h3 h4 : Nat) (sz : Nat) (ct : Int32) (lo : Int32) (oc : Int32) (kd : Nat → Int32) (dp : Nat → Int32) (su : Nat → Int32) (nm : Nat → Int64) (x1 : Int32) (out : Int64) (hF : fn_R_nameOf ct nm x1 = some out) : Met l yy_R_nameOf ws_R_nameOf { frames := 1, cells := 0, slots := 0, locals := 21 } (mP_ (dC, dI) (tk_ cI cL cC cZ) [(h0, .inr (0, [.ref h1, .ref h2, .ref h3, .ref h4, .int ct, .int lo, .int oc])), (h1, .inl (cI, 24, .inl kd)), (h2, .inl (cI, 24, .inl dp)), (h3, .inl (cI, 24, .inl su)), (h4, .inl (cL, 24, .inr (.inl nm)))] sz [.ref h0, .int x1]) (vp_Sl (fun r => r = out)) 0 0 (fun _ => False) := by
  refine Met.ofW (cc := cc_R_nameOf) (maxL := 2) (ret := (some .long)) (by decide) rfl ?_
  intro p e s m args below meth c s₁ B hml hv
  obtain ⟨hargs, hsz, hP, hK, hD0⟩ := hv
  have hx := B.exec
  have hb := B.bytes
  have hr := B.returns
  have hts := atoms_spec (ws := ws_R_nameOf) B.pre
  have ht : ∀ w ∈ TB_, w.before args s = true := fun w h => hts w (List.mem_cons_of_mem _ h)
  have hown : s.vm.findClass cn_R = some m.cls := findClass_of_methodNamed B.named
  have hlocks := B.notSynchronized
  subst hsz
  have hD := hD0.self (sz := s.heap.size)
  generalize hAe : va_A [(h0, .inr (0, [.ref h1, .ref h2, .ref h3, .ref h4, .int ct, .int lo, .int oc])), (h1, .inl (cI, 24, .inl kd)), (h2, .inl (cI, 24, .inl dp)), (h3, .inl (cI, 24, .inl su)), (h4, .inl (cL, 24, .inr (.inl nm)))] s.heap.size = A at hD
  have hA : ∀ q : Nat, s.heap.size ≤ q → A q := fun q h => by rw [← hAe]; exact Or.inr h
  have hS : va_S A s.heap s.heap [] := va_S.rf
  have hP : va_P (dC, dI) vwCl [(h0, .inr (0, [.ref h1, .ref h2, .ref h3, .ref h4, .int ct, .int lo, .int oc])), (h1, .inl (cI, 24, .inl kd)), (h2, .inl (cI, 24, .inl dp)), (h3, .inl (cI, 24, .inl su)), (h4, .inl (cL, 24, .inr (.inl nm)))] s.heap := hP
  have hl := lv_entry [.ref h0, .int x1] (n := 2) (Nat.le_of_ble_eq_true rfl)
  have he : entryFrame m args 2 = _ := (congrArg (fun a => entryFrame m a 2) hargs).trans (lg_entry_eq m [.ref h0, .int x1] 2)
  rw [he]
  generalize (lg_sl [.ref h0, .int x1] ++ List.replicate (2 - (lg_sl [.ref h0, .int x1]).length) Slot.unset).toArray = ls at hl ⊢
  have hl : lv_has ls 2 [(0, .ref h0), (1, .int x1)] := hl
  generalize hQ : MQ below _ args s _ _ _ = Q
  unfold fn_R_nameOf at hF
  refine lv_aload_n hx hb dd_R_nameOf_0 rfl (lv_at hl 0 rfl) ?_
  refine lv_iload_n hx hb dd_R_nameOf_1 rfl (lv_at hl 1 rfl) ?_
  obtain ⟨o_2, ho_2, hF⟩ := jv_bi hF
  refine jv_ci (va_runV (C := cn_R) (As := [.int x1]) (rest := []) ⟨hx, hb, hml, hown, ht⟩ (c_R_has l dC dI cI cL cC cZ h0 h1 h2 h3 h4 s.heap.size ct lo oc kd dp su nm x1 _ ho_2) (cwV 1 ht (gi_V tw_1_114 tw_1_115 tw_1_116 tw_1_3 tw_1_117) rfl rfl rfl (by decide +kernel) ⟨Nat.le_of_ble_eq_true rfl, Nat.le_of_ble_eq_true rfl⟩) (jv_pv hK hP hD [0, 1, 2, 3, 4] rfl (by decide) rfl (va_recv hK hP (ci := 0) (q0 := 0) rfl rfl)) rfl rfl hl.1 rfl (lv_room (Nat.le_of_ble_eq_true rfl)) dd_R_nameOf_2 ⟨Nat.le_of_ble_eq_true rfl, Nat.le_of_ble_eq_true rfl⟩) ?_
  refine lv_if_eq (tgt := 17) hx hb dd_R_nameOf_5 (by decide) (fun c_3 => ?_) (fun c_3 => ?_)
  · have hF := jv_t c_3 hF
    refine lv_lconst (v := 0) hx hb dd_R_nameOf_17 (by decide) ?_
    subst hQ
    exact W.lret (v := 0) hx hb hr (fun t ht hW => ⟨0, rfl, (Option.some.inj hF), ht⟩) (fun _ h => by cases h) dd_R_nameOf_18
  · have hF := jv_f c_3 hF
    refine lv_aload_n hx hb dd_R_nameOf_8 rfl (lv_at hl 0 rfl) ?_
    refine va_get (D := (dC, dI)) (ci := 0) (v := .ref h4) (C := cn_R) (T := tt_R) (N := 7) hx hb ht in_R hown hK hP 0 rfl rfl 3 (by decide) (ht _ tw_1_44) (fun _ h9 => h9) rfl dd_R_nameOf_9 ?_
    refine lv_iload_n hx hb dd_R_nameOf_12 rfl (lv_at hl 1 rfl) ?_
    obtain ⟨g_4, hF⟩ := jv_gi hF
    refine va_lald hx hb hK hP 4 1 rfl rfl (jv_in g_4) dd_R_nameOf_13 ?_
    refine lv_goto (tgt := 18) hx hb dd_R_nameOf_14 (by decide) ?_
    subst hQ
    exact W.lret (v := nm x1.toNatClampNeg) hx hb hr (fun t ht hW => ⟨nm x1.toNatClampNeg, rfl, (Option.some.inj hF), ht⟩) (fun _ h => by cases h) dd_R_nameOf_18
set_option maxHeartbeats 40000000 in
set_option maxRecDepth 100000 in
theorem c_R_innermost (l : Launch) (dC : Nat → ClassId) (dI : Nat → Nat → Nat) (cI cL cC cZ : ClassId) (h0 h1 h2 h3 h4 : Nat) (sz : Nat) (ct : Int32) (lo : Int32) (oc : Int32) (kd : Nat → Int32) (dp : Nat → Int32) (su : Nat → Int32) (nm : Nat → Int64)  (out : Int32) (hF : fn_R_innermost lo = some out) : Met l yy_R_innermost ws_R_innermost { frames := 0, cells := 0, slots := 0, locals := 0 } (mP_ (dC, dI) (tk_ cI cL cC cZ) [(h0, .inr (0, [.ref h1, .ref h2, .ref h3, .ref h4, .int ct, .int lo, .int oc])), (h1, .inl (cI, 24, .inl kd)), (h2, .inl (cI, 24, .inl dp)), (h3, .inl (cI, 24, .inl su)), (h4, .inl (cL, 24, .inr (.inl nm)))] sz [.ref h0]) (vp_Si (fun r => r = out)) 0 0 (fun _ => False) := by
  refine Met.ofW (cc := cc_R_innermost) (maxL := 1) (ret := (some .int)) (by decide) rfl ?_
  intro p e s m args below meth c s₁ B hml hv
  obtain ⟨hargs, hsz, hP, hK, hD0⟩ := hv
  have hx := B.exec
  have hb := B.bytes
  have hr := B.returns
  have hts := atoms_spec (ws := ws_R_innermost) B.pre
  have ht : ∀ w ∈ TB_, w.before args s = true := fun w h => hts w (List.mem_cons_of_mem _ h)
  have hown : s.vm.findClass cn_R = some m.cls := findClass_of_methodNamed B.named
  have hlocks := B.notSynchronized
  subst hsz
  have hD := hD0.self (sz := s.heap.size)
  generalize hAe : va_A [(h0, .inr (0, [.ref h1, .ref h2, .ref h3, .ref h4, .int ct, .int lo, .int oc])), (h1, .inl (cI, 24, .inl kd)), (h2, .inl (cI, 24, .inl dp)), (h3, .inl (cI, 24, .inl su)), (h4, .inl (cL, 24, .inr (.inl nm)))] s.heap.size = A at hD
  have hA : ∀ q : Nat, s.heap.size ≤ q → A q := fun q h => by rw [← hAe]; exact Or.inr h
  have hS : va_S A s.heap s.heap [] := va_S.rf
  have hP : va_P (dC, dI) vwCl [(h0, .inr (0, [.ref h1, .ref h2, .ref h3, .ref h4, .int ct, .int lo, .int oc])), (h1, .inl (cI, 24, .inl kd)), (h2, .inl (cI, 24, .inl dp)), (h3, .inl (cI, 24, .inl su)), (h4, .inl (cL, 24, .inr (.inl nm)))] s.heap := hP
  have hl := lv_entry [.ref h0] (n := 1) (Nat.le_of_ble_eq_true rfl)
  have he : entryFrame m args 1 = _ := (congrArg (fun a => entryFrame m a 1) hargs).trans (lg_entry_eq m [.ref h0] 1)
  rw [he]
  generalize (lg_sl [.ref h0] ++ List.replicate (1 - (lg_sl [.ref h0]).length) Slot.unset).toArray = ls at hl ⊢
  have hl : lv_has ls 1 [(0, .ref h0)] := hl
  generalize hQ : MQ below _ args s _ _ _ = Q
  unfold fn_R_innermost at hF
  refine lv_aload_n hx hb dd_R_innermost_0 rfl (lv_at hl 0 rfl) ?_
  refine va_get (D := (dC, dI)) (ci := 0) (v := .int lo) (C := cn_R) (T := tt_R) (N := 7) hx hb ht in_R hown hK hP 0 rfl rfl 5 (by decide) (ht _ tw_1_46) (fun _ h9 => h9) rfl dd_R_innermost_1 ?_
  subst hQ
  exact W.iret (v := lo) hx hb hr (fun t ht hW => ⟨lo, rfl, (Option.some.inj hF), ht⟩) (fun _ h => by cases h) dd_R_innermost_4
set_option maxHeartbeats 40000000 in
set_option maxRecDepth 100000 in
theorem c_R_openSuites (l : Launch) (dC : Nat → ClassId) (dI : Nat → Nat → Nat) (cI cL cC cZ : ClassId) (h0 h1 h2 h3 h4 : Nat) (sz : Nat) (ct : Int32) (lo : Int32) (oc : Int32) (kd : Nat → Int32) (dp : Nat → Int32) (su : Nat → Int32) (nm : Nat → Int64)  (out : Int32) (hF : fn_R_openSuites oc = some out) : Met l yy_R_openSuites ws_R_openSuites { frames := 0, cells := 0, slots := 0, locals := 0 } (mP_ (dC, dI) (tk_ cI cL cC cZ) [(h0, .inr (0, [.ref h1, .ref h2, .ref h3, .ref h4, .int ct, .int lo, .int oc])), (h1, .inl (cI, 24, .inl kd)), (h2, .inl (cI, 24, .inl dp)), (h3, .inl (cI, 24, .inl su)), (h4, .inl (cL, 24, .inr (.inl nm)))] sz [.ref h0]) (vp_Si (fun r => r = out)) 0 0 (fun _ => False) := by
  refine Met.ofW (cc := cc_R_openSuites) (maxL := 1) (ret := (some .int)) (by decide) rfl ?_
  intro p e s m args below meth c s₁ B hml hv
  obtain ⟨hargs, hsz, hP, hK, hD0⟩ := hv
  have hx := B.exec
  have hb := B.bytes
  have hr := B.returns
  have hts := atoms_spec (ws := ws_R_openSuites) B.pre
  have ht : ∀ w ∈ TB_, w.before args s = true := fun w h => hts w (List.mem_cons_of_mem _ h)
  have hown : s.vm.findClass cn_R = some m.cls := findClass_of_methodNamed B.named
  have hlocks := B.notSynchronized
  subst hsz
  have hD := hD0.self (sz := s.heap.size)
  generalize hAe : va_A [(h0, .inr (0, [.ref h1, .ref h2, .ref h3, .ref h4, .int ct, .int lo, .int oc])), (h1, .inl (cI, 24, .inl kd)), (h2, .inl (cI, 24, .inl dp)), (h3, .inl (cI, 24, .inl su)), (h4, .inl (cL, 24, .inr (.inl nm)))] s.heap.size = A at hD
  have hA : ∀ q : Nat, s.heap.size ≤ q → A q := fun q h => by rw [← hAe]; exact Or.inr h
  have hS : va_S A s.heap s.heap [] := va_S.rf
  have hP : va_P (dC, dI) vwCl [(h0, .inr (0, [.ref h1, .ref h2, .ref h3, .ref h4, .int ct, .int lo, .int oc])), (h1, .inl (cI, 24, .inl kd)), (h2, .inl (cI, 24, .inl dp)), (h3, .inl (cI, 24, .inl su)), (h4, .inl (cL, 24, .inr (.inl nm)))] s.heap := hP
  have hl := lv_entry [.ref h0] (n := 1) (Nat.le_of_ble_eq_true rfl)
  have he : entryFrame m args 1 = _ := (congrArg (fun a => entryFrame m a 1) hargs).trans (lg_entry_eq m [.ref h0] 1)
  rw [he]
  generalize (lg_sl [.ref h0] ++ List.replicate (1 - (lg_sl [.ref h0]).length) Slot.unset).toArray = ls at hl ⊢
  have hl : lv_has ls 1 [(0, .ref h0)] := hl
  generalize hQ : MQ below _ args s _ _ _ = Q
  unfold fn_R_openSuites at hF
  refine lv_aload_n hx hb dd_R_openSuites_0 rfl (lv_at hl 0 rfl) ?_
  refine va_get (D := (dC, dI)) (ci := 0) (v := .int oc) (C := cn_R) (T := tt_R) (N := 7) hx hb ht in_R hown hK hP 0 rfl rfl 6 (by decide) (ht _ tw_1_47) (fun _ h9 => h9) rfl dd_R_openSuites_1 ?_
  subst hQ
  exact W.iret (v := oc) hx hb hr (fun t ht hW => ⟨oc, rfl, (Option.some.inj hF), ht⟩) (fun _ h => by cases h) dd_R_openSuites_4
set_option maxHeartbeats 40000000 in
set_option maxRecDepth 100000 in
theorem c_R_rowDepth (l : Launch) (dC : Nat → ClassId) (dI : Nat → Nat → Nat) (cI cL cC cZ : ClassId) (h0 h1 h2 h3 h4 : Nat) (sz : Nat) (ct : Int32) (lo : Int32) (oc : Int32) (kd : Nat → Int32) (dp : Nat → Int32) (su : Nat → Int32) (nm : Nat → Int64) (x1 : Int32) (out : Int32) (hF : fn_R_rowDepth ct dp x1 = some out) : Met l yy_R_rowDepth ws_R_rowDepth { frames := 1, cells := 0, slots := 0, locals := 21 } (mP_ (dC, dI) (tk_ cI cL cC cZ) [(h0, .inr (0, [.ref h1, .ref h2, .ref h3, .ref h4, .int ct, .int lo, .int oc])), (h1, .inl (cI, 24, .inl kd)), (h2, .inl (cI, 24, .inl dp)), (h3, .inl (cI, 24, .inl su)), (h4, .inl (cL, 24, .inr (.inl nm)))] sz [.ref h0, .int x1]) (vp_Si (fun r => r = out)) 0 0 (fun _ => False) := by
  refine Met.ofW (cc := cc_R_rowDepth) (maxL := 2) (ret := (some .int)) (by decide) rfl ?_
  intro p e s m args below meth c s₁ B hml hv
  obtain ⟨hargs, hsz, hP, hK, hD0⟩ := hv
  have hx := B.exec
  have hb := B.bytes
  have hr := B.returns
  have hts := atoms_spec (ws := ws_R_rowDepth) B.pre
  have ht : ∀ w ∈ TB_, w.before args s = true := fun w h => hts w (List.mem_cons_of_mem _ h)
  have hown : s.vm.findClass cn_R = some m.cls := findClass_of_methodNamed B.named
  have hlocks := B.notSynchronized
  subst hsz
  have hD := hD0.self (sz := s.heap.size)
  generalize hAe : va_A [(h0, .inr (0, [.ref h1, .ref h2, .ref h3, .ref h4, .int ct, .int lo, .int oc])), (h1, .inl (cI, 24, .inl kd)), (h2, .inl (cI, 24, .inl dp)), (h3, .inl (cI, 24, .inl su)), (h4, .inl (cL, 24, .inr (.inl nm)))] s.heap.size = A at hD
  have hA : ∀ q : Nat, s.heap.size ≤ q → A q := fun q h => by rw [← hAe]; exact Or.inr h
  have hS : va_S A s.heap s.heap [] := va_S.rf
  have hP : va_P (dC, dI) vwCl [(h0, .inr (0, [.ref h1, .ref h2, .ref h3, .ref h4, .int ct, .int lo, .int oc])), (h1, .inl (cI, 24, .inl kd)), (h2, .inl (cI, 24, .inl dp)), (h3, .inl (cI, 24, .inl su)), (h4, .inl (cL, 24, .inr (.inl nm)))] s.heap := hP
  have hl := lv_entry [.ref h0, .int x1] (n := 2) (Nat.le_of_ble_eq_true rfl)
  have he : entryFrame m args 2 = _ := (congrArg (fun a => entryFrame m a 2) hargs).trans (lg_entry_eq m [.ref h0, .int x1] 2)
  rw [he]
  generalize (lg_sl [.ref h0, .int x1] ++ List.replicate (2 - (lg_sl [.ref h0, .int x1]).length) Slot.unset).toArray = ls at hl ⊢
  have hl : lv_has ls 2 [(0, .ref h0), (1, .int x1)] := hl
  generalize hQ : MQ below _ args s _ _ _ = Q
  unfold fn_R_rowDepth at hF
  refine lv_aload_n hx hb dd_R_rowDepth_0 rfl (lv_at hl 0 rfl) ?_
  refine lv_iload_n hx hb dd_R_rowDepth_1 rfl (lv_at hl 1 rfl) ?_
  obtain ⟨o_2, ho_2, hF⟩ := jv_bi hF
  refine jv_ci (va_runV (C := cn_R) (As := [.int x1]) (rest := []) ⟨hx, hb, hml, hown, ht⟩ (c_R_has l dC dI cI cL cC cZ h0 h1 h2 h3 h4 s.heap.size ct lo oc kd dp su nm x1 _ ho_2) (cwV 1 ht (gi_V tw_1_114 tw_1_115 tw_1_116 tw_1_3 tw_1_117) rfl rfl rfl (by decide +kernel) ⟨Nat.le_of_ble_eq_true rfl, Nat.le_of_ble_eq_true rfl⟩) (jv_pv hK hP hD [0, 1, 2, 3, 4] rfl (by decide) rfl (va_recv hK hP (ci := 0) (q0 := 0) rfl rfl)) rfl rfl hl.1 rfl (lv_room (Nat.le_of_ble_eq_true rfl)) dd_R_rowDepth_2 ⟨Nat.le_of_ble_eq_true rfl, Nat.le_of_ble_eq_true rfl⟩) ?_
  refine lv_if_eq (tgt := 19) hx hb dd_R_rowDepth_5 (by decide) (fun c_3 => ?_) (fun c_3 => ?_)
  · have hF := jv_t c_3 hF
    refine lv_iconst (v := 0) hx hb dd_R_rowDepth_19 (by decide) ?_
    subst hQ
    exact W.iret (v := 0) hx hb hr (fun t ht hW => ⟨0, rfl, (Option.some.inj hF), ht⟩) (fun _ h => by cases h) dd_R_rowDepth_20
  · have hF := jv_f c_3 hF
    refine lv_aload_n hx hb dd_R_rowDepth_8 rfl (lv_at hl 0 rfl) ?_
    refine va_get (D := (dC, dI)) (ci := 0) (v := .ref h2) (C := cn_R) (T := tt_R) (N := 7) hx hb ht in_R hown hK hP 0 rfl rfl 1 (by decide) (ht _ tw_1_42) (fun _ h9 => h9) rfl dd_R_rowDepth_9 ?_
    refine lv_iload_n hx hb dd_R_rowDepth_12 rfl (lv_at hl 1 rfl) ?_
    obtain ⟨g_4, hF⟩ := jv_gi hF
    refine va_iald hx hb hK hP 2 0 rfl rfl (jv_in g_4) dd_R_rowDepth_13 ?_
    refine lv_iconst (v := 1) hx hb dd_R_rowDepth_14 (by decide) ?_
    refine lv_iadd hx hb dd_R_rowDepth_15 ?_
    refine lv_goto (tgt := 20) hx hb dd_R_rowDepth_16 (by decide) ?_
    subst hQ
    exact W.iret (v := (dp x1.toNatClampNeg) + 1) hx hb hr (fun t ht hW => ⟨(dp x1.toNatClampNeg) + 1, rfl, (Option.some.inj hF), ht⟩) (fun _ h => by cases h) dd_R_rowDepth_20
set_option maxHeartbeats 40000000 in
set_option maxRecDepth 100000 in
theorem c_R_addNode (l : Launch) (dC : Nat → ClassId) (dI : Nat → Nat → Nat) (cI cL cC cZ : ClassId) (h0 h1 h2 h3 h4 : Nat) (sz : Nat) (ct : Int32) (lo : Int32) (oc : Int32) (kd : Nat → Int32) (dp : Nat → Int32) (su : Nat → Int32) (nm : Nat → Int64) (x1 : Int32) (x2 : Int64) (out : Int32 × Int32 × Int32 × Int32 × (Nat → Int32) × (Nat → Int32) × (Nat → Int32) × (Nat → Int64)) (hF : fn_R_addNode ct lo oc kd dp su nm x1 x2 = some out) : Met l yy_R_addNode ws_R_addNode { frames := 0, cells := 0, slots := 0, locals := 0 } (mP_ (dC, dI) (tk_ cI cL cC cZ) [(h0, .inr (0, [.ref h1, .ref h2, .ref h3, .ref h4, .int ct, .int lo, .int oc])), (h1, .inl (cI, 24, .inl kd)), (h2, .inl (cI, 24, .inl dp)), (h3, .inl (cI, 24, .inl su)), (h4, .inl (cL, 24, .inr (.inl nm)))] sz [.ref h0, .int x1, .long x2]) (va_Qi (fun r (_ : Unit) => r = out.1) (mB_ (dC, dI) (tk_ cI cL cC cZ) [(h0, .inr (0, [.ref h1, .ref h2, .ref h3, .ref h4, .int out.2.1, .int out.2.2.1, .int out.2.2.2.1])), (h1, .inl (cI, 24, .inl out.2.2.2.2.1)), (h2, .inl (cI, 24, .inl out.2.2.2.2.2.1)), (h3, .inl (cI, 24, .inl out.2.2.2.2.2.2.1)), (h4, .inl (cL, 24, .inr (.inl out.2.2.2.2.2.2.2)))] (va_A [(h0, .inr (0, [.ref h1, .ref h2, .ref h3, .ref h4, .int ct, .int lo, .int oc])), (h1, .inl (cI, 24, .inl kd)), (h2, .inl (cI, 24, .inl dp)), (h3, .inl (cI, 24, .inl su)), (h4, .inl (cL, 24, .inr (.inl nm)))] sz)) (va_A [(h0, .inr (0, [.ref h1, .ref h2, .ref h3, .ref h4, .int ct, .int lo, .int oc])), (h1, .inl (cI, 24, .inl kd)), (h2, .inl (cI, 24, .inl dp)), (h3, .inl (cI, 24, .inl su)), (h4, .inl (cL, 24, .inr (.inl nm)))] sz)) 0 0 (va_A [(h0, .inr (0, [.ref h1, .ref h2, .ref h3, .ref h4, .int ct, .int lo, .int oc])), (h1, .inl (cI, 24, .inl kd)), (h2, .inl (cI, 24, .inl dp)), (h3, .inl (cI, 24, .inl su)), (h4, .inl (cL, 24, .inr (.inl nm)))] sz) := by
  refine Met.ofW (cc := cc_R_addNode) (maxL := 5) (ret := (some .int)) (by decide) rfl ?_
  intro p e s m args below meth c s₁ B hml hv
  obtain ⟨hargs, hsz, hP, hK, hD0⟩ := hv
  have hx := B.exec
  have hb := B.bytes
  have hr := B.returns
  have hts := atoms_spec (ws := ws_R_addNode) B.pre
  have ht : ∀ w ∈ TB_, w.before args s = true := fun w h => hts w (List.mem_cons_of_mem _ h)
  have hown : s.vm.findClass cn_R = some m.cls := findClass_of_methodNamed B.named
  have hlocks := B.notSynchronized
  subst hsz
  have hD := hD0.self (sz := s.heap.size)
  generalize hAe : va_A [(h0, .inr (0, [.ref h1, .ref h2, .ref h3, .ref h4, .int ct, .int lo, .int oc])), (h1, .inl (cI, 24, .inl kd)), (h2, .inl (cI, 24, .inl dp)), (h3, .inl (cI, 24, .inl su)), (h4, .inl (cL, 24, .inr (.inl nm)))] s.heap.size = A at hD ⊢
  have hA : ∀ q : Nat, s.heap.size ≤ q → A q := fun q h => by rw [← hAe]; exact Or.inr h
  have hS : va_S A s.heap s.heap [] := va_S.rf
  have hP : va_P (dC, dI) vwCl [(h0, .inr (0, [.ref h1, .ref h2, .ref h3, .ref h4, .int ct, .int lo, .int oc])), (h1, .inl (cI, 24, .inl kd)), (h2, .inl (cI, 24, .inl dp)), (h3, .inl (cI, 24, .inl su)), (h4, .inl (cL, 24, .inr (.inl nm)))] s.heap := hP
  have hl := lv_entry [.ref h0, .int x1, .long x2] (n := 5) (Nat.le_of_ble_eq_true rfl)
  have he : entryFrame m args 5 = _ := (congrArg (fun a => entryFrame m a 5) hargs).trans (lg_entry_eq m [.ref h0, .int x1, .long x2] 5)
  rw [he]
  generalize (lg_sl [.ref h0, .int x1, .long x2] ++ List.replicate (5 - (lg_sl [.ref h0, .int x1, .long x2]).length) Slot.unset).toArray = ls at hl ⊢
  have hl : lv_has ls 5 [(0, .ref h0), (1, .int x1), (2, .long x2)] := hl
  generalize hQ : MQ below _ args s _ _ _ = Q
  have bl26 : ∀ (ct : Int32) (lo : Int32) (oc : Int32) (kd : Nat → Int32) (dp : Nat → Int32) (su : Nat → Int32) (nm : Nat → Int64) (x1 : Int32) (x2 : Int64), fb_R_addNode_26   ct lo oc kd dp su nm x1 x2 = some out → ∀ (H : Heap) (locs : List Loc), va_P (dC, dI) vwCl [(h0, .inr (0, [.ref h1, .ref h2, .ref h3, .ref h4, .int ct, .int lo, .int oc])), (h1, .inl (cI, 24, .inl kd)), (h2, .inl (cI, 24, .inl dp)), (h3, .inl (cI, 24, .inl su)), (h4, .inl (cL, 24, .inr (.inl nm)))] H → va_D A [(h0, .inr (0, [.ref h1, .ref h2, .ref h3, .ref h4, .int ct, .int lo, .int oc])), (h1, .inl (cI, 24, .inl kd)), (h2, .inl (cI, 24, .inl dp)), (h3, .inl (cI, 24, .inl su)), (h4, .inl (cL, 24, .inr (.inl nm)))] → va_S A s.heap H locs → ∀ ls : Array Slot, lv_has ls 5 [(0, .ref h0), (1, .int x1), (2, .long x2)] → W p l e (headSpec ws_R_addNode { frames := 0, cells := 0, slots := 0, locals := 0 }).room s m args below meth c H locs 0 0 Q (F0 m 26 ls []) := by
    intro ct lo oc kd dp su nm x1 x2 hF H locs hP hD hS ls hl
    unfold fb_R_addNode_26 at hF
    refine lv_aload_n hx hb dd_R_addNode_26 rfl (lv_at hl 0 rfl) ?_
    refine va_get (D := (dC, dI)) (ci := 0) (v := .int ct) (C := cn_R) (T := tt_R) (N := 7) hx hb ht in_R hown hK hP 0 rfl rfl 4 (by decide) (ht _ tw_1_45) (fun _ h9 => h9) rfl dd_R_addNode_27 ?_
    refine lv_istore (lv' := [(4, .int ct), (0, .ref h0), (1, .int x1), (2, .long x2)]) hx hb dd_R_addNode_30 hl (by decide) rfl (fun ls hl => ?_)
    refine lv_aload_n hx hb dd_R_addNode_32 rfl (lv_at hl 1 rfl) ?_
    refine va_get (D := (dC, dI)) (ci := 0) (v := .ref h1) (C := cn_R) (T := tt_R) (N := 7) hx hb ht in_R hown hK hP 0 rfl rfl 0 (by decide) (ht _ tw_1_41) (fun _ h9 => h9) rfl dd_R_addNode_33 ?_
    refine lv_iload hx hb dd_R_addNode_36 (lv_at hl 0 rfl) ?_
    refine lv_iload_n hx hb dd_R_addNode_38 rfl (lv_at hl 2 rfl) ?_
    obtain ⟨g_23, hF⟩ := jv_gi hF
    refine va_iast hx hb hK hP hD hS 1 0 rfl rfl (jv_in g_23) dd_R_addNode_39 (fun H_24 locs_25 hP hD hS => ?_)
    have hP : va_P (dC, dI) vwCl [(h0, .inr (0, [.ref h1, .ref h2, .ref h3, .ref h4, .int ct, .int lo, .int oc])), (h1, .inl (cI, 24, .inl (upd kd ct.toNatClampNeg x1))), (h2, .inl (cI, 24, .inl dp)), (h3, .inl (cI, 24, .inl su)), (h4, .inl (cL, 24, .inr (.inl nm)))] H_24 := hP
    have hD : va_D A [(h0, .inr (0, [.ref h1, .ref h2, .ref h3, .ref h4, .int ct, .int lo, .int oc])), (h1, .inl (cI, 24, .inl (upd kd ct.toNatClampNeg x1))), (h2, .inl (cI, 24, .inl dp)), (h3, .inl (cI, 24, .inl su)), (h4, .inl (cL, 24, .inr (.inl nm)))] := hD
    refine lv_aload_n hx hb dd_R_addNode_40 rfl (lv_at hl 1 rfl) ?_
    refine va_get (D := (dC, dI)) (ci := 0) (v := .ref h2) (C := cn_R) (T := tt_R) (N := 7) hx hb ht in_R hown hK hP 0 rfl rfl 1 (by decide) (ht _ tw_1_42) (fun _ h9 => h9) rfl dd_R_addNode_41 ?_
    refine lv_iload hx hb dd_R_addNode_44 (lv_at hl 0 rfl) ?_
    refine lv_aload_n hx hb dd_R_addNode_46 rfl (lv_at hl 1 rfl) ?_
    refine va_get (D := (dC, dI)) (ci := 0) (v := .int oc) (C := cn_R) (T := tt_R) (N := 7) hx hb ht in_R hown hK hP 0 rfl rfl 6 (by decide) (ht _ tw_1_47) (fun _ h9 => h9) rfl dd_R_addNode_47 ?_
    obtain ⟨g_26, hF⟩ := jv_gi hF
    refine va_iast hx hb hK hP hD hS 2 0 rfl rfl (jv_in g_26) dd_R_addNode_50 (fun H_27 locs_28 hP hD hS => ?_)
    have hP : va_P (dC, dI) vwCl [(h0, .inr (0, [.ref h1, .ref h2, .ref h3, .ref h4, .int ct, .int lo, .int oc])), (h1, .inl (cI, 24, .inl (upd kd ct.toNatClampNeg x1))), (h2, .inl (cI, 24, .inl (upd dp ct.toNatClampNeg oc))), (h3, .inl (cI, 24, .inl su)), (h4, .inl (cL, 24, .inr (.inl nm)))] H_27 := hP
    have hD : va_D A [(h0, .inr (0, [.ref h1, .ref h2, .ref h3, .ref h4, .int ct, .int lo, .int oc])), (h1, .inl (cI, 24, .inl (upd kd ct.toNatClampNeg x1))), (h2, .inl (cI, 24, .inl (upd dp ct.toNatClampNeg oc))), (h3, .inl (cI, 24, .inl su)), (h4, .inl (cL, 24, .inr (.inl nm)))] := hD
    refine lv_aload_n hx hb dd_R_addNode_51 rfl (lv_at hl 1 rfl) ?_
    refine va_get (D := (dC, dI)) (ci := 0) (v := .ref h3) (C := cn_R) (T := tt_R) (N := 7) hx hb ht in_R hown hK hP 0 rfl rfl 2 (by decide) (ht _ tw_1_43) (fun _ h9 => h9) rfl dd_R_addNode_52 ?_
    refine lv_iload hx hb dd_R_addNode_55 (lv_at hl 0 rfl) ?_
    refine lv_aload_n hx hb dd_R_addNode_57 rfl (lv_at hl 1 rfl) ?_
    refine va_get (D := (dC, dI)) (ci := 0) (v := .int lo) (C := cn_R) (T := tt_R) (N := 7) hx hb ht in_R hown hK hP 0 rfl rfl 5 (by decide) (ht _ tw_1_46) (fun _ h9 => h9) rfl dd_R_addNode_58 ?_
    obtain ⟨g_29, hF⟩ := jv_gi hF
    refine va_iast hx hb hK hP hD hS 3 0 rfl rfl (jv_in g_29) dd_R_addNode_61 (fun H_30 locs_31 hP hD hS => ?_)
    have hP : va_P (dC, dI) vwCl [(h0, .inr (0, [.ref h1, .ref h2, .ref h3, .ref h4, .int ct, .int lo, .int oc])), (h1, .inl (cI, 24, .inl (upd kd ct.toNatClampNeg x1))), (h2, .inl (cI, 24, .inl (upd dp ct.toNatClampNeg oc))), (h3, .inl (cI, 24, .inl (upd su ct.toNatClampNeg lo))), (h4, .inl (cL, 24, .inr (.inl nm)))] H_30 := hP
    have hD : va_D A [(h0, .inr (0, [.ref h1, .ref h2, .ref h3, .ref h4, .int ct, .int lo, .int oc])), (h1, .inl (cI, 24, .inl (upd kd ct.toNatClampNeg x1))), (h2, .inl (cI, 24, .inl (upd dp ct.toNatClampNeg oc))), (h3, .inl (cI, 24, .inl (upd su ct.toNatClampNeg lo))), (h4, .inl (cL, 24, .inr (.inl nm)))] := hD
    refine lv_aload_n hx hb dd_R_addNode_62 rfl (lv_at hl 1 rfl) ?_
    refine va_get (D := (dC, dI)) (ci := 0) (v := .ref h4) (C := cn_R) (T := tt_R) (N := 7) hx hb ht in_R hown hK hP 0 rfl rfl 3 (by decide) (ht _ tw_1_44) (fun _ h9 => h9) rfl dd_R_addNode_63 ?_
    refine lv_iload hx hb dd_R_addNode_66 (lv_at hl 0 rfl) ?_
    refine lv_lload_n hx hb dd_R_addNode_68 rfl (lv_at hl 3 rfl) ?_
    obtain ⟨g_32, hF⟩ := jv_gi hF
    refine va_last hx hb hK hP hD hS 4 1 rfl rfl (jv_in g_32) dd_R_addNode_69 (fun H_33 locs_34 hP hD hS => ?_)
    have hP : va_P (dC, dI) vwCl [(h0, .inr (0, [.ref h1, .ref h2, .ref h3, .ref h4, .int ct, .int lo, .int oc])), (h1, .inl (cI, 24, .inl (upd kd ct.toNatClampNeg x1))), (h2, .inl (cI, 24, .inl (upd dp ct.toNatClampNeg oc))), (h3, .inl (cI, 24, .inl (upd su ct.toNatClampNeg lo))), (h4, .inl (cL, 24, .inr (.inl (vp_updL nm ct.toNatClampNeg x2))))] H_33 := hP
    have hD : va_D A [(h0, .inr (0, [.ref h1, .ref h2, .ref h3, .ref h4, .int ct, .int lo, .int oc])), (h1, .inl (cI, 24, .inl (upd kd ct.toNatClampNeg x1))), (h2, .inl (cI, 24, .inl (upd dp ct.toNatClampNeg oc))), (h3, .inl (cI, 24, .inl (upd su ct.toNatClampNeg lo))), (h4, .inl (cL, 24, .inr (.inl (vp_updL nm ct.toNatClampNeg x2))))] := hD
    refine lv_aload_n hx hb dd_R_addNode_70 rfl (lv_at hl 1 rfl) ?_
    refine lv_dup hx hb dd_R_addNode_71 rfl ?_
    refine va_get (D := (dC, dI)) (ci := 0) (v := .int ct) (C := cn_R) (T := tt_R) (N := 7) hx hb ht in_R hown hK hP 0 rfl rfl 4 (by decide) (ht _ tw_1_45) (fun _ h9 => h9) rfl dd_R_addNode_72 ?_
    refine lv_iconst (v := 1) hx hb dd_R_addNode_75 (by decide) ?_
    refine lv_iadd hx hb dd_R_addNode_76 ?_
    refine va_put (D := (dC, dI)) (ci := 0) (v := .int (ct + 1)) (ty := .int) (C := cn_R) (T := tt_R) (N := 7) hx hb ht in_R ty_R tyok_R nm_R hown hK hP hD hS 0 rfl rfl 4 (by decide) (ht _ tw_1_45) (fun _ h9 => h9) rfl (by decide +kernel) rfl rfl (Nat.le_of_ble_eq_true rfl) dd_R_addNode_77 (fun H_35 locs_36 hP hD hS => ?_)
    have hP : va_P (dC, dI) vwCl [(h0, .inr (0, [.ref h1, .ref h2, .ref h3, .ref h4, .int (ct + 1), .int lo, .int oc])), (h1, .inl (cI, 24, .inl (upd kd ct.toNatClampNeg x1))), (h2, .inl (cI, 24, .inl (upd dp ct.toNatClampNeg oc))), (h3, .inl (cI, 24, .inl (upd su ct.toNatClampNeg lo))), (h4, .inl (cL, 24, .inr (.inl (vp_updL nm ct.toNatClampNeg x2))))] H_35 := hP
    have hD : va_D A [(h0, .inr (0, [.ref h1, .ref h2, .ref h3, .ref h4, .int (ct + 1), .int lo, .int oc])), (h1, .inl (cI, 24, .inl (upd kd ct.toNatClampNeg x1))), (h2, .inl (cI, 24, .inl (upd dp ct.toNatClampNeg oc))), (h3, .inl (cI, 24, .inl (upd su ct.toNatClampNeg lo))), (h4, .inl (cL, 24, .inr (.inl (vp_updL nm ct.toNatClampNeg x2))))] := hD
    refine lv_iload_n hx hb dd_R_addNode_80 rfl (lv_at hl 2 rfl) ?_
    refine lv_bipush (v := 6) hx hb dd_R_addNode_81 (by decide) ?_
    refine lv_icmp_ne (tgt := 102) hx hb dd_R_addNode_83 (by decide) (fun c_37 => ?_) (fun c_37 => ?_)
    · have hF := jv_f c_37 hF
      refine lv_iload hx hb dd_R_addNode_102 (lv_at hl 0 rfl) ?_
      subst hQ
      obtain rfl := Option.some.inj hF
      exact W.iret (v := ct) hx hb hr (fun t ht hW => ⟨⟨ct, (), rfl, rfl, by rw [ht]; exact hP, va_K.moved hW.alike hK, hD⟩, hS.F ht⟩) hS.2.2 dd_R_addNode_104
    · have hF := jv_t c_37 hF
      refine lv_aload_n hx hb dd_R_addNode_86 rfl (lv_at hl 1 rfl) ?_
      refine lv_iload hx hb dd_R_addNode_87 (lv_at hl 0 rfl) ?_
      refine va_put (D := (dC, dI)) (ci := 0) (v := .int ct) (ty := .int) (C := cn_R) (T := tt_R) (N := 7) hx hb ht in_R ty_R tyok_R nm_R hown hK hP hD hS 0 rfl rfl 5 (by decide) (ht _ tw_1_46) (fun _ h9 => h9) rfl (by decide +kernel) rfl rfl (Nat.le_of_ble_eq_true rfl) dd_R_addNode_89 (fun H_38 locs_39 hP hD hS => ?_)
      have hP : va_P (dC, dI) vwCl [(h0, .inr (0, [.ref h1, .ref h2, .ref h3, .ref h4, .int (ct + 1), .int ct, .int oc])), (h1, .inl (cI, 24, .inl (upd kd ct.toNatClampNeg x1))), (h2, .inl (cI, 24, .inl (upd dp ct.toNatClampNeg oc))), (h3, .inl (cI, 24, .inl (upd su ct.toNatClampNeg lo))), (h4, .inl (cL, 24, .inr (.inl (vp_updL nm ct.toNatClampNeg x2))))] H_38 := hP
      have hD : va_D A [(h0, .inr (0, [.ref h1, .ref h2, .ref h3, .ref h4, .int (ct + 1), .int ct, .int oc])), (h1, .inl (cI, 24, .inl (upd kd ct.toNatClampNeg x1))), (h2, .inl (cI, 24, .inl (upd dp ct.toNatClampNeg oc))), (h3, .inl (cI, 24, .inl (upd su ct.toNatClampNeg lo))), (h4, .inl (cL, 24, .inr (.inl (vp_updL nm ct.toNatClampNeg x2))))] := hD
      refine lv_aload_n hx hb dd_R_addNode_92 rfl (lv_at hl 1 rfl) ?_
      refine lv_dup hx hb dd_R_addNode_93 rfl ?_
      refine va_get (D := (dC, dI)) (ci := 0) (v := .int oc) (C := cn_R) (T := tt_R) (N := 7) hx hb ht in_R hown hK hP 0 rfl rfl 6 (by decide) (ht _ tw_1_47) (fun _ h9 => h9) rfl dd_R_addNode_94 ?_
      refine lv_iconst (v := 1) hx hb dd_R_addNode_97 (by decide) ?_
      refine lv_iadd hx hb dd_R_addNode_98 ?_
      refine va_put (D := (dC, dI)) (ci := 0) (v := .int (oc + 1)) (ty := .int) (C := cn_R) (T := tt_R) (N := 7) hx hb ht in_R ty_R tyok_R nm_R hown hK hP hD hS 0 rfl rfl 6 (by decide) (ht _ tw_1_47) (fun _ h9 => h9) rfl (by decide +kernel) rfl rfl (Nat.le_of_ble_eq_true rfl) dd_R_addNode_99 (fun H_40 locs_41 hP hD hS => ?_)
      have hP : va_P (dC, dI) vwCl [(h0, .inr (0, [.ref h1, .ref h2, .ref h3, .ref h4, .int (ct + 1), .int ct, .int (oc + 1)])), (h1, .inl (cI, 24, .inl (upd kd ct.toNatClampNeg x1))), (h2, .inl (cI, 24, .inl (upd dp ct.toNatClampNeg oc))), (h3, .inl (cI, 24, .inl (upd su ct.toNatClampNeg lo))), (h4, .inl (cL, 24, .inr (.inl (vp_updL nm ct.toNatClampNeg x2))))] H_40 := hP
      have hD : va_D A [(h0, .inr (0, [.ref h1, .ref h2, .ref h3, .ref h4, .int (ct + 1), .int ct, .int (oc + 1)])), (h1, .inl (cI, 24, .inl (upd kd ct.toNatClampNeg x1))), (h2, .inl (cI, 24, .inl (upd dp ct.toNatClampNeg oc))), (h3, .inl (cI, 24, .inl (upd su ct.toNatClampNeg lo))), (h4, .inl (cL, 24, .inr (.inl (vp_updL nm ct.toNatClampNeg x2))))] := hD
      refine lv_iload hx hb dd_R_addNode_102 (lv_at hl 0 rfl) ?_
      subst hQ
      obtain rfl := Option.some.inj hF
      exact W.iret (v := ct) hx hb hr (fun t ht hW => ⟨⟨ct, (), rfl, rfl, by rw [ht]; exact hP, va_K.moved hW.alike hK, hD⟩, hS.F ht⟩) hS.2.2 dd_R_addNode_104
  unfold fn_R_addNode at hF
  refine lv_aload_n hx hb dd_R_addNode_0 rfl (lv_at hl 0 rfl) ?_
  refine va_get (D := (dC, dI)) (ci := 0) (v := .int ct) (C := cn_R) (T := tt_R) (N := 7) hx hb ht in_R hown hK hP 0 rfl rfl 4 (by decide) (ht _ tw_1_45) (fun _ h9 => h9) rfl dd_R_addNode_1 ?_
  refine lv_bipush (v := 24) hx hb dd_R_addNode_4 (by decide) ?_
  refine lv_icmp_ge (tgt := 23) hx hb dd_R_addNode_6 (by decide) (fun c_42 => ?_) (fun c_42 => ?_)
  · have hF := jv_t c_42 hF
    refine lv_bipush (v := (-2)) hx hb dd_R_addNode_23 (by decide) ?_
    subst hQ
    obtain rfl := Option.some.inj hF
    exact W.iret (v := (-2)) hx hb hr (fun t ht hW => ⟨⟨(-2), (), rfl, rfl, by rw [ht]; exact hP, va_K.moved hW.alike hK, hD⟩, hS.F ht⟩) hS.2.2 dd_R_addNode_25
  · have hF := jv_f c_42 hF
    refine lv_iload_n hx hb dd_R_addNode_9 rfl (lv_at hl 1 rfl) ?_
    refine lv_bipush (v := 6) hx hb dd_R_addNode_10 (by decide) ?_
    refine lv_icmp_ne (tgt := 26) hx hb dd_R_addNode_12 (by decide) (fun c_43 => ?_) (fun c_43 => ?_)
    · have hF := jv_f c_43 hF
      exact bl26 ct lo oc kd dp su nm x1 x2 hF s.heap [] hP hD hS ls (lv_sub hl [0, 1, 2] rfl)
    · have hF := jv_t c_43 hF
      refine lv_aload_n hx hb dd_R_addNode_15 rfl (lv_at hl 0 rfl) ?_
      refine va_get (D := (dC, dI)) (ci := 0) (v := .int oc) (C := cn_R) (T := tt_R) (N := 7) hx hb ht in_R hown hK hP 0 rfl rfl 6 (by decide) (ht _ tw_1_47) (fun _ h9 => h9) rfl dd_R_addNode_16 ?_
      refine lv_iconst (v := 3) hx hb dd_R_addNode_19 (by decide) ?_
      refine lv_icmp_lt (tgt := 26) hx hb dd_R_addNode_20 (by decide) (fun c_44 => ?_) (fun c_44 => ?_)
      · have hF := jv_t c_44 hF
        exact bl26 ct lo oc kd dp su nm x1 x2 hF s.heap [] hP hD hS ls (lv_sub hl [0, 1, 2] rfl)
      · have hF := jv_f c_44 hF
        refine lv_bipush (v := (-2)) hx hb dd_R_addNode_23 (by decide) ?_
        subst hQ
        obtain rfl := Option.some.inj hF
        exact W.iret (v := (-2)) hx hb hr (fun t ht hW => ⟨⟨(-2), (), rfl, rfl, by rw [ht]; exact hP, va_K.moved hW.alike hK, hD⟩, hS.F ht⟩) hS.2.2 dd_R_addNode_25
set_option maxHeartbeats 40000000 in
set_option maxRecDepth 100000 in
theorem c_R_areAttempts (l : Launch) (dC : Nat → ClassId) (dI : Nat → Nat → Nat) (cI cL cC cZ : ClassId) (h0 h1 h2 h3 h4 : Nat) (sz : Nat) (ct : Int32) (lo : Int32) (oc : Int32) (kd : Nat → Int32) (dp : Nat → Int32) (su : Nat → Int32) (nm : Nat → Int64) (x1 : Int32) (x2 : Int32) (out : Int32) (hF : fn_R_areAttempts ct kd dp su nm x1 x2 = some out) : Met l yy_R_areAttempts ws_R_areAttempts { frames := 2, cells := 0, slots := 0, locals := 42 } (mP_ (dC, dI) (tk_ cI cL cC cZ) [(h0, .inr (0, [.ref h1, .ref h2, .ref h3, .ref h4, .int ct, .int lo, .int oc])), (h1, .inl (cI, 24, .inl kd)), (h2, .inl (cI, 24, .inl dp)), (h3, .inl (cI, 24, .inl su)), (h4, .inl (cL, 24, .inr (.inl nm)))] sz [.ref h0, .int x1, .int x2]) (vp_Si (fun r => r = out)) 0 0 (fun _ => False) := by
  refine Met.ofW (cc := cc_R_areAttempts) (maxL := 6) (ret := (some .boolean)) (by decide) rfl ?_
  intro p e s m args below meth c s₁ B hml hv
  obtain ⟨hargs, hsz, hP, hK, hD0⟩ := hv
  have hx := B.exec
  have hb := B.bytes
  have hr := B.returns
  have hts := atoms_spec (ws := ws_R_areAttempts) B.pre
  have ht : ∀ w ∈ TB_, w.before args s = true := fun w h => hts w (List.mem_cons_of_mem _ h)
  have hown : s.vm.findClass cn_R = some m.cls := findClass_of_methodNamed B.named
  have hlocks := B.notSynchronized
  subst hsz
  have hD := hD0.self (sz := s.heap.size)
  generalize hAe : va_A [(h0, .inr (0, [.ref h1, .ref h2, .ref h3, .ref h4, .int ct, .int lo, .int oc])), (h1, .inl (cI, 24, .inl kd)), (h2, .inl (cI, 24, .inl dp)), (h3, .inl (cI, 24, .inl su)), (h4, .inl (cL, 24, .inr (.inl nm)))] s.heap.size = A at hD
  have hA : ∀ q : Nat, s.heap.size ≤ q → A q := fun q h => by rw [← hAe]; exact Or.inr h
  have hS : va_S A s.heap s.heap [] := va_S.rf
  have hP : va_P (dC, dI) vwCl [(h0, .inr (0, [.ref h1, .ref h2, .ref h3, .ref h4, .int ct, .int lo, .int oc])), (h1, .inl (cI, 24, .inl kd)), (h2, .inl (cI, 24, .inl dp)), (h3, .inl (cI, 24, .inl su)), (h4, .inl (cL, 24, .inr (.inl nm)))] s.heap := hP
  have hl := lv_entry [.ref h0, .int x1, .int x2] (n := 6) (Nat.le_of_ble_eq_true rfl)
  have he : entryFrame m args 6 = _ := (congrArg (fun a => entryFrame m a 6) hargs).trans (lg_entry_eq m [.ref h0, .int x1, .int x2] 6)
  rw [he]
  generalize (lg_sl [.ref h0, .int x1, .int x2] ++ List.replicate (6 - (lg_sl [.ref h0, .int x1, .int x2]).length) Slot.unset).toArray = ls at hl ⊢
  have hl : lv_has ls 6 [(0, .ref h0), (1, .int x1), (2, .int x2)] := hl
  generalize hQ : MQ below _ args s _ _ _ = Q
  have lp46 : ∀ (n46 : Nat), ∀ (x3 : Int32) (x4 : Int32) (x5 : Int32), fl_R_areAttempts_46 ct kd dp su nm  n46 (x3, x4, x5) = some out → ∀ ls : Array Slot, lv_has ls 6 [(0, .ref h0), (3, .int x3), (4, .int x4), (5, .int x5)] → W p l e (headSpec ws_R_areAttempts { frames := 2, cells := 0, slots := 0, locals := 42 }).room s m args below meth c s.heap [] 0 0 Q (F0 m 46 ls []) := by
    intro n46
    induction n46 with
    | zero =>
      intro x3 x4 x5 hF
      exact (jv_no hF).elim
    | succ n46 ih46 =>
      intro x3 x4 x5 hF ls hl
      have hF : fb_R_areAttempts_46 ct kd dp su nm  (fl_R_areAttempts_46 ct kd dp su nm  n46) x3 x4 x5 = some out := hF
      unfold fb_R_areAttempts_46 at hF
      refine lv_iload hx hb dd_R_areAttempts_46 (lv_at hl 3 rfl) ?_
      refine lv_if_lt (tgt := 88) hx hb dd_R_areAttempts_48 (by decide) (fun c_9 => ?_) (fun c_9 => ?_)
      · have hF := jv_t c_9 hF
        refine lv_iconst (v := 1) hx hb dd_R_areAttempts_88 (by decide) ?_
        subst hQ
        exact W.zret (v := 1) hx hb hr rfl (fun t ht hW => ⟨1, rfl, (Option.some.inj hF), ht⟩) (fun _ h => by cases h) dd_R_areAttempts_89
      · have hF := jv_f c_9 hF
        refine lv_aload_n hx hb dd_R_areAttempts_51 rfl (lv_at hl 0 rfl) ?_
        refine lv_iload_n hx hb dd_R_areAttempts_52 rfl (lv_at hl 1 rfl) ?_
        obtain ⟨o_53, ho_53, hF⟩ := jv_bi hF
        refine jv_cl (va_runV (C := cn_R) (As := [.int x3]) (rest := []) ⟨hx, hb, hml, hown, ht⟩ (c_R_nameOf l dC dI cI cL cC cZ h0 h1 h2 h3 h4 s.heap.size ct lo oc kd dp su nm x3 _ ho_53) (cwV 1 ht (gi_V tw_3_29 tw_1_164 tw_1_165 tw_1_3 tw_1_166) rfl rfl rfl (by decide +kernel) ⟨Nat.le_of_ble_eq_true rfl, Nat.le_of_ble_eq_true rfl⟩) (jv_pv hK hP hD [0, 1, 2, 3, 4] rfl (by decide) rfl (va_recv hK hP (ci := 0) (q0 := 0) rfl rfl)) rfl rfl hl.1 rfl (lv_room (Nat.le_of_ble_eq_true rfl)) dd_R_areAttempts_53 ⟨Nat.le_of_ble_eq_true rfl, Nat.le_of_ble_eq_true rfl⟩) ?_
        refine lv_aload_n hx hb dd_R_areAttempts_56 rfl (lv_at hl 0 rfl) ?_
        refine lv_iload hx hb dd_R_areAttempts_57 (lv_at hl 2 rfl) ?_
        obtain ⟨o_59, ho_59, hF⟩ := jv_bi hF
        refine jv_cl (va_runV (C := cn_R) (As := [.int x4]) (rest := [.long o_53]) ⟨hx, hb, hml, hown, ht⟩ (c_R_nameOf l dC dI cI cL cC cZ h0 h1 h2 h3 h4 s.heap.size ct lo oc kd dp su nm x4 _ ho_59) (cwV 1 ht (gi_V tw_3_29 tw_1_164 tw_1_165 tw_1_3 tw_1_166) rfl rfl rfl (by decide +kernel) ⟨Nat.le_of_ble_eq_true rfl, Nat.le_of_ble_eq_true rfl⟩) (jv_pv hK hP hD [0, 1, 2, 3, 4] rfl (by decide) rfl (va_recv hK hP (ci := 0) (q0 := 0) rfl rfl)) rfl rfl hl.1 rfl (lv_room (Nat.le_of_ble_eq_true rfl)) dd_R_areAttempts_59 ⟨Nat.le_of_ble_eq_true rfl, Nat.le_of_ble_eq_true rfl⟩) ?_
        refine W.lcmp hx hb dd_R_areAttempts_62 ?_
        refine lv_if_eq (tgt := 68) hx hb dd_R_areAttempts_63 (by decide) (fun c_10 => ?_) (fun c_10 => ?_)
        · have hF := jv_t c_10 hF
          refine lv_aload_n hx hb dd_R_areAttempts_68 rfl (lv_at hl 0 rfl) ?_
          refine lv_iload_n hx hb dd_R_areAttempts_69 rfl (lv_at hl 1 rfl) ?_
          obtain ⟨o_70, ho_70, hF⟩ := jv_bi hF
          refine jv_ci (va_runV (C := cn_R) (As := [.int x3]) (rest := []) ⟨hx, hb, hml, hown, ht⟩ (c_R_suiteOf l dC dI cI cL cC cZ h0 h1 h2 h3 h4 s.heap.size ct lo oc kd dp su nm x3 _ ho_70) (cwV 1 ht (gi_V tw_3_30 tw_2_13 tw_2_14 tw_1_3 tw_2_15) rfl rfl rfl (by decide +kernel) ⟨Nat.le_of_ble_eq_true rfl, Nat.le_of_ble_eq_true rfl⟩) (jv_pv hK hP hD [0, 1, 2, 3, 4] rfl (by decide) rfl (va_recv hK hP (ci := 0) (q0 := 0) rfl rfl)) rfl rfl hl.1 rfl (lv_room (Nat.le_of_ble_eq_true rfl)) dd_R_areAttempts_70 ⟨Nat.le_of_ble_eq_true rfl, Nat.le_of_ble_eq_true rfl⟩) ?_
          refine lv_istore_n (lv' := [(3, .int o_70), (0, .ref h0), (4, .int x4), (5, .int x5)]) hx hb dd_R_areAttempts_73 rfl hl (by decide) rfl (fun ls hl => ?_)
          refine lv_aload_n hx hb dd_R_areAttempts_74 rfl (lv_at hl 1 rfl) ?_
          refine lv_iload hx hb dd_R_areAttempts_75 (lv_at hl 2 rfl) ?_
          obtain ⟨o_77, ho_77, hF⟩ := jv_bi hF
          refine jv_ci (va_runV (C := cn_R) (As := [.int x4]) (rest := []) ⟨hx, hb, hml, hown, ht⟩ (c_R_suiteOf l dC dI cI cL cC cZ h0 h1 h2 h3 h4 s.heap.size ct lo oc kd dp su nm x4 _ ho_77) (cwV 1 ht (gi_V tw_3_30 tw_2_13 tw_2_14 tw_1_3 tw_2_15) rfl rfl rfl (by decide +kernel) ⟨Nat.le_of_ble_eq_true rfl, Nat.le_of_ble_eq_true rfl⟩) (jv_pv hK hP hD [0, 1, 2, 3, 4] rfl (by decide) rfl (va_recv hK hP (ci := 0) (q0 := 0) rfl rfl)) rfl rfl hl.1 rfl (lv_room (Nat.le_of_ble_eq_true rfl)) dd_R_areAttempts_77 ⟨Nat.le_of_ble_eq_true rfl, Nat.le_of_ble_eq_true rfl⟩) ?_
          refine lv_istore (lv' := [(4, .int o_77), (3, .int o_70), (0, .ref h0), (5, .int x5)]) hx hb dd_R_areAttempts_80 hl (by decide) rfl (fun ls hl => ?_)
          refine lv_iinc (v := x5 + (-1)) (lv' := [(5, .int (x5 + (-1))), (4, .int o_77), (3, .int o_70), (0, .ref h0)]) hx hb dd_R_areAttempts_82 hl (k := 3) rfl rfl (by decide) rfl (fun ls hl => ?_)
          refine lv_goto (tgt := 46) hx hb dd_R_areAttempts_85 (by decide) ?_
          exact ih46 o_70 o_77 (x5 + (-1)) hF ls (lv_sub hl [3, 2, 1, 0] rfl)
        · have hF := jv_f c_10 hF
          refine lv_iconst (v := 0) hx hb dd_R_areAttempts_66 (by decide) ?_
          subst hQ
          exact W.zret (v := 0) hx hb hr rfl (fun t ht hW => ⟨0, rfl, (Option.some.inj hF), ht⟩) (fun _ h => by cases h) dd_R_areAttempts_67
  unfold fn_R_areAttempts at hF
  refine lv_aload_n hx hb dd_R_areAttempts_0 rfl (lv_at hl 0 rfl) ?_
  refine lv_iload_n hx hb dd_R_areAttempts_1 rfl (lv_at hl 1 rfl) ?_
  obtain ⟨o_2, ho_2, hF⟩ := jv_bi hF
  refine jv_ci (va_runV (C := cn_R) (As := [.int x1]) (rest := []) ⟨hx, hb, hml, hown, ht⟩ (c_R_isTest l dC dI cI cL cC cZ h0 h1 h2 h3 h4 s.heap.size ct lo oc kd dp su nm x1 _ ho_2) (cwV 1 ht (gi_V tw_3_28 tw_2_77 tw_2_78 tw_1_3 tw_2_79) rfl rfl rfl (by decide +kernel) ⟨Nat.le_of_ble_eq_true rfl, Nat.le_of_ble_eq_true rfl⟩) (jv_pv hK hP hD [0, 1, 2, 3, 4] rfl (by decide) rfl (va_recv hK hP (ci := 0) (q0 := 0) rfl rfl)) rfl rfl hl.1 rfl (lv_room (Nat.le_of_ble_eq_true rfl)) dd_R_areAttempts_2 ⟨Nat.le_of_ble_eq_true rfl, Nat.le_of_ble_eq_true rfl⟩) ?_
  refine lv_if_eq (tgt := 31) hx hb dd_R_areAttempts_5 (by decide) (fun c_11 => ?_) (fun c_11 => ?_)
  · have hF := jv_t c_11 hF
    refine lv_iconst (v := 0) hx hb dd_R_areAttempts_31 (by decide) ?_
    subst hQ
    exact W.zret (v := 0) hx hb hr rfl (fun t ht hW => ⟨0, rfl, (Option.some.inj hF), ht⟩) (fun _ h => by cases h) dd_R_areAttempts_32
  · have hF := jv_f c_11 hF
    refine lv_aload_n hx hb dd_R_areAttempts_8 rfl (lv_at hl 0 rfl) ?_
    refine lv_iload_n hx hb dd_R_areAttempts_9 rfl (lv_at hl 2 rfl) ?_
    obtain ⟨o_10, ho_10, hF⟩ := jv_bi hF
    refine jv_ci (va_runV (C := cn_R) (As := [.int x2]) (rest := []) ⟨hx, hb, hml, hown, ht⟩ (c_R_isTest l dC dI cI cL cC cZ h0 h1 h2 h3 h4 s.heap.size ct lo oc kd dp su nm x2 _ ho_10) (cwV 1 ht (gi_V tw_3_28 tw_2_77 tw_2_78 tw_1_3 tw_2_79) rfl rfl rfl (by decide +kernel) ⟨Nat.le_of_ble_eq_true rfl, Nat.le_of_ble_eq_true rfl⟩) (jv_pv hK hP hD [0, 1, 2, 3, 4] rfl (by decide) rfl (va_recv hK hP (ci := 0) (q0 := 0) rfl rfl)) rfl rfl hl.1 rfl (lv_room (Nat.le_of_ble_eq_true rfl)) dd_R_areAttempts_10 ⟨Nat.le_of_ble_eq_true rfl, Nat.le_of_ble_eq_true rfl⟩) ?_
    refine lv_if_eq (tgt := 31) hx hb dd_R_areAttempts_13 (by decide) (fun c_12 => ?_) (fun c_12 => ?_)
    · have hF := jv_t c_12 hF
      refine lv_iconst (v := 0) hx hb dd_R_areAttempts_31 (by decide) ?_
      subst hQ
      exact W.zret (v := 0) hx hb hr rfl (fun t ht hW => ⟨0, rfl, (Option.some.inj hF), ht⟩) (fun _ h => by cases h) dd_R_areAttempts_32
    · have hF := jv_f c_12 hF
      refine lv_aload_n hx hb dd_R_areAttempts_16 rfl (lv_at hl 0 rfl) ?_
      refine va_get (D := (dC, dI)) (ci := 0) (v := .ref h2) (C := cn_R) (T := tt_R) (N := 7) hx hb ht in_R hown hK hP 0 rfl rfl 1 (by decide) (ht _ tw_1_42) (fun _ h9 => h9) rfl dd_R_areAttempts_17 ?_
      refine lv_iload_n hx hb dd_R_areAttempts_20 rfl (lv_at hl 1 rfl) ?_
      obtain ⟨g_13, hF⟩ := jv_gi hF
      refine va_iald hx hb hK hP 2 0 rfl rfl (jv_in g_13) dd_R_areAttempts_21 ?_
      refine lv_aload_n hx hb dd_R_areAttempts_22 rfl (lv_at hl 0 rfl) ?_
      refine va_get (D := (dC, dI)) (ci := 0) (v := .ref h2) (C := cn_R) (T := tt_R) (N := 7) hx hb ht in_R hown hK hP 0 rfl rfl 1 (by decide) (ht _ tw_1_42) (fun _ h9 => h9) rfl dd_R_areAttempts_23 ?_
      refine lv_iload_n hx hb dd_R_areAttempts_26 rfl (lv_at hl 2 rfl) ?_
      obtain ⟨g_14, hF⟩ := jv_gi hF
      refine va_iald hx hb hK hP 2 0 rfl rfl (jv_in g_14) dd_R_areAttempts_27 ?_
      refine lv_icmp_eq (tgt := 33) hx hb dd_R_areAttempts_28 (by decide) (fun c_15 => ?_) (fun c_15 => ?_)
      · have hF := jv_t c_15 hF
        refine lv_iload_n hx hb dd_R_areAttempts_33 rfl (lv_at hl 1 rfl) ?_
        refine lv_istore_n (lv' := [(3, .int x1), (0, .ref h0), (1, .int x1), (2, .int x2)]) hx hb dd_R_areAttempts_34 rfl hl (by decide) rfl (fun ls hl => ?_)
        refine lv_iload_n hx hb dd_R_areAttempts_35 rfl (lv_at hl 3 rfl) ?_
        refine lv_istore (lv' := [(4, .int x2), (3, .int x1), (0, .ref h0), (1, .int x1), (2, .int x2)]) hx hb dd_R_areAttempts_36 hl (by decide) rfl (fun ls hl => ?_)
        refine lv_aload_n hx hb dd_R_areAttempts_38 rfl (lv_at hl 2 rfl) ?_
        refine va_get (D := (dC, dI)) (ci := 0) (v := .ref h2) (C := cn_R) (T := tt_R) (N := 7) hx hb ht in_R hown hK hP 0 rfl rfl 1 (by decide) (ht _ tw_1_42) (fun _ h9 => h9) rfl dd_R_areAttempts_39 ?_
        refine lv_iload_n hx hb dd_R_areAttempts_42 rfl (lv_at hl 3 rfl) ?_
        obtain ⟨g_16, hF⟩ := jv_gi hF
        refine va_iald hx hb hK hP 2 0 rfl rfl (jv_in g_16) dd_R_areAttempts_43 ?_
        refine lv_istore (lv' := [(5, .int (dp x1.toNatClampNeg)), (4, .int x2), (3, .int x1), (0, .ref h0), (1, .int x1), (2, .int x2)]) hx hb dd_R_areAttempts_44 hl (by decide) rfl (fun ls hl => ?_)
        exact lp46 4000 x1 x2 (dp x1.toNatClampNeg) hF ls (lv_sub hl [3, 2, 1, 0] rfl)
      · have hF := jv_f c_15 hF
        refine lv_iconst (v := 0) hx hb dd_R_areAttempts_31 (by decide) ?_
        subst hQ
        exact W.zret (v := 0) hx hb hr rfl (fun t ht hW => ⟨0, rfl, (Option.some.inj hF), ht⟩) (fun _ h => by cases h) dd_R_areAttempts_32
set_option maxHeartbeats 40000000 in
set_option maxRecDepth 100000 in
theorem c_R_hasFailedBehind (l : Launch) (dC : Nat → ClassId) (dI : Nat → Nat → Nat) (cI cL cC cZ : ClassId) (h0 h1 h2 h3 h4 : Nat) (sz : Nat) (ct : Int32) (lo : Int32) (oc : Int32) (kd : Nat → Int32) (dp : Nat → Int32) (su : Nat → Int32) (nm : Nat → Int64) (x1 : Int32) (out : Int32) (hF : fn_R_hasFailedBehind ct kd x1 = some out) : Met l yy_R_hasFailedBehind ws_R_hasFailedBehind { frames := 0, cells := 0, slots := 0, locals := 0 } (mP_ (dC, dI) (tk_ cI cL cC cZ) [(h0, .inr (0, [.ref h1, .ref h2, .ref h3, .ref h4, .int ct, .int lo, .int oc])), (h1, .inl (cI, 24, .inl kd)), (h2, .inl (cI, 24, .inl dp)), (h3, .inl (cI, 24, .inl su)), (h4, .inl (cL, 24, .inr (.inl nm)))] sz [.ref h0, .int x1]) (vp_Si (fun r => r = out)) 0 0 (fun _ => False) := by
  refine Met.ofW (cc := cc_R_hasFailedBehind) (maxL := 3) (ret := (some .boolean)) (by decide) rfl ?_
  intro p e s m args below meth c s₁ B hml hv
  obtain ⟨hargs, hsz, hP, hK, hD0⟩ := hv
  have hx := B.exec
  have hb := B.bytes
  have hr := B.returns
  have hts := atoms_spec (ws := ws_R_hasFailedBehind) B.pre
  have ht : ∀ w ∈ TB_, w.before args s = true := fun w h => hts w (List.mem_cons_of_mem _ h)
  have hown : s.vm.findClass cn_R = some m.cls := findClass_of_methodNamed B.named
  have hlocks := B.notSynchronized
  subst hsz
  have hD := hD0.self (sz := s.heap.size)
  generalize hAe : va_A [(h0, .inr (0, [.ref h1, .ref h2, .ref h3, .ref h4, .int ct, .int lo, .int oc])), (h1, .inl (cI, 24, .inl kd)), (h2, .inl (cI, 24, .inl dp)), (h3, .inl (cI, 24, .inl su)), (h4, .inl (cL, 24, .inr (.inl nm)))] s.heap.size = A at hD
  have hA : ∀ q : Nat, s.heap.size ≤ q → A q := fun q h => by rw [← hAe]; exact Or.inr h
  have hS : va_S A s.heap s.heap [] := va_S.rf
  have hP : va_P (dC, dI) vwCl [(h0, .inr (0, [.ref h1, .ref h2, .ref h3, .ref h4, .int ct, .int lo, .int oc])), (h1, .inl (cI, 24, .inl kd)), (h2, .inl (cI, 24, .inl dp)), (h3, .inl (cI, 24, .inl su)), (h4, .inl (cL, 24, .inr (.inl nm)))] s.heap := hP
  have hl := lv_entry [.ref h0, .int x1] (n := 3) (Nat.le_of_ble_eq_true rfl)
  have he : entryFrame m args 3 = _ := (congrArg (fun a => entryFrame m a 3) hargs).trans (lg_entry_eq m [.ref h0, .int x1] 3)
  rw [he]
  generalize (lg_sl [.ref h0, .int x1] ++ List.replicate (3 - (lg_sl [.ref h0, .int x1]).length) Slot.unset).toArray = ls at hl ⊢
  have hl : lv_has ls 3 [(0, .ref h0), (1, .int x1)] := hl
  generalize hQ : MQ below _ args s _ _ _ = Q
  have lp4 : ∀ (n4 : Nat), ∀ (x2 : Int32), fl_R_hasFailedBehind_4 ct kd  n4 x2 = some out → ∀ ls : Array Slot, lv_has ls 3 [(0, .ref h0), (2, .int x2)] → W p l e (headSpec ws_R_hasFailedBehind { frames := 0, cells := 0, slots := 0, locals := 0 }).room s m args below meth c s.heap [] 0 0 Q (F0 m 4 ls []) := by
    intro n4
    induction n4 with
    | zero =>
      intro x2 hF
      exact (jv_no hF).elim
    | succ n4 ih4 =>
      intro x2 hF ls hl
      have hF : fb_R_hasFailedBehind_4 ct kd  (fl_R_hasFailedBehind_4 ct kd  n4) x2 = some out := hF
      unfold fb_R_hasFailedBehind_4 at hF
      refine lv_iload_n hx hb dd_R_hasFailedBehind_4 rfl (lv_at hl 1 rfl) ?_
      refine lv_aload_n hx hb dd_R_hasFailedBehind_5 rfl (lv_at hl 0 rfl) ?_
      refine va_get (D := (dC, dI)) (ci := 0) (v := .int ct) (C := cn_R) (T := tt_R) (N := 7) hx hb ht in_R hown hK hP 0 rfl rfl 4 (by decide) (ht _ tw_1_45) (fun _ h9 => h9) rfl dd_R_hasFailedBehind_6 ?_
      refine lv_icmp_ge (tgt := 30) hx hb dd_R_hasFailedBehind_9 (by decide) (fun c_4 => ?_) (fun c_4 => ?_)
      · have hF := jv_t c_4 hF
        refine lv_iconst (v := 0) hx hb dd_R_hasFailedBehind_30 (by decide) ?_
        subst hQ
        exact W.zret (v := 0) hx hb hr rfl (fun t ht hW => ⟨0, rfl, (Option.some.inj hF), ht⟩) (fun _ h => by cases h) dd_R_hasFailedBehind_31
      · have hF := jv_f c_4 hF
        refine lv_aload_n hx hb dd_R_hasFailedBehind_12 rfl (lv_at hl 0 rfl) ?_
        refine va_get (D := (dC, dI)) (ci := 0) (v := .ref h1) (C := cn_R) (T := tt_R) (N := 7) hx hb ht in_R hown hK hP 0 rfl rfl 0 (by decide) (ht _ tw_1_41) (fun _ h9 => h9) rfl dd_R_hasFailedBehind_13 ?_
        refine lv_iload_n hx hb dd_R_hasFailedBehind_16 rfl (lv_at hl 1 rfl) ?_
        obtain ⟨g_5, hF⟩ := jv_gi hF
        refine va_iald hx hb hK hP 1 0 rfl rfl (jv_in g_5) dd_R_hasFailedBehind_17 ?_
        refine lv_iconst (v := 1) hx hb dd_R_hasFailedBehind_18 (by decide) ?_
        refine lv_icmp_ne (tgt := 24) hx hb dd_R_hasFailedBehind_19 (by decide) (fun c_6 => ?_) (fun c_6 => ?_)
        · have hF := jv_f c_6 hF
          refine lv_iinc (v := x2 + 1) (lv' := [(2, .int (x2 + 1)), (0, .ref h0)]) hx hb dd_R_hasFailedBehind_24 hl (k := 1) rfl rfl (by decide) rfl (fun ls hl => ?_)
          refine lv_goto (tgt := 4) hx hb dd_R_hasFailedBehind_27 (by decide) ?_
          exact ih4 (x2 + 1) hF ls (lv_sub hl [1, 0] rfl)
        · have hF := jv_t c_6 hF
          refine lv_iconst (v := 1) hx hb dd_R_hasFailedBehind_22 (by decide) ?_
          subst hQ
          exact W.zret (v := 1) hx hb hr rfl (fun t ht hW => ⟨1, rfl, (Option.some.inj hF), ht⟩) (fun _ h => by cases h) dd_R_hasFailedBehind_23
  unfold fn_R_hasFailedBehind at hF
  refine lv_iload_n hx hb dd_R_hasFailedBehind_0 rfl (lv_at hl 1 rfl) ?_
  refine lv_iconst (v := 1) hx hb dd_R_hasFailedBehind_1 (by decide) ?_
  refine lv_iadd hx hb dd_R_hasFailedBehind_2 ?_
  refine lv_istore_n (lv' := [(2, .int (x1 + 1)), (0, .ref h0), (1, .int x1)]) hx hb dd_R_hasFailedBehind_3 rfl hl (by decide) rfl (fun ls hl => ?_)
  exact lp4 4000 (x1 + 1) hF ls (lv_sub hl [1, 0] rfl)
set_option maxHeartbeats 40000000 in
set_option maxRecDepth 100000 in
theorem c_R_countInRow (l : Launch) (dC : Nat → ClassId) (dI : Nat → Nat → Nat) (cI cL cC cZ : ClassId) (h0 h1 h2 h3 h4 : Nat) (sz : Nat) (ct : Int32) (lo : Int32) (oc : Int32) (kd : Nat → Int32) (dp : Nat → Int32) (su : Nat → Int32) (nm : Nat → Int64) (x1 : Int32) (x2 : Int32) (out : Int32) (hF : fn_R_countInRow ct su x1 x2 = some out) : Met l yy_R_countInRow ws_R_countInRow { frames := 0, cells := 0, slots := 0, locals := 0 } (mP_ (dC, dI) (tk_ cI cL cC cZ) [(h0, .inr (0, [.ref h1, .ref h2, .ref h3, .ref h4, .int ct, .int lo, .int oc])), (h1, .inl (cI, 24, .inl kd)), (h2, .inl (cI, 24, .inl dp)), (h3, .inl (cI, 24, .inl su)), (h4, .inl (cL, 24, .inr (.inl nm)))] sz [.ref h0, .int x1, .int x2]) (vp_Si (fun r => r = out)) 0 0 (fun _ => False) := by
  refine Met.ofW (cc := cc_R_countInRow) (maxL := 5) (ret := (some .int)) (by decide) rfl ?_
  intro p e s m args below meth c s₁ B hml hv
  obtain ⟨hargs, hsz, hP, hK, hD0⟩ := hv
  have hx := B.exec
  have hb := B.bytes
  have hr := B.returns
  have hts := atoms_spec (ws := ws_R_countInRow) B.pre
  have ht : ∀ w ∈ TB_, w.before args s = true := fun w h => hts w (List.mem_cons_of_mem _ h)
  have hown : s.vm.findClass cn_R = some m.cls := findClass_of_methodNamed B.named
  have hlocks := B.notSynchronized
  subst hsz
  have hD := hD0.self (sz := s.heap.size)
  generalize hAe : va_A [(h0, .inr (0, [.ref h1, .ref h2, .ref h3, .ref h4, .int ct, .int lo, .int oc])), (h1, .inl (cI, 24, .inl kd)), (h2, .inl (cI, 24, .inl dp)), (h3, .inl (cI, 24, .inl su)), (h4, .inl (cL, 24, .inr (.inl nm)))] s.heap.size = A at hD
  have hA : ∀ q : Nat, s.heap.size ≤ q → A q := fun q h => by rw [← hAe]; exact Or.inr h
  have hS : va_S A s.heap s.heap [] := va_S.rf
  have hP : va_P (dC, dI) vwCl [(h0, .inr (0, [.ref h1, .ref h2, .ref h3, .ref h4, .int ct, .int lo, .int oc])), (h1, .inl (cI, 24, .inl kd)), (h2, .inl (cI, 24, .inl dp)), (h3, .inl (cI, 24, .inl su)), (h4, .inl (cL, 24, .inr (.inl nm)))] s.heap := hP
  have hl := lv_entry [.ref h0, .int x1, .int x2] (n := 5) (Nat.le_of_ble_eq_true rfl)
  have he : entryFrame m args 5 = _ := (congrArg (fun a => entryFrame m a 5) hargs).trans (lg_entry_eq m [.ref h0, .int x1, .int x2] 5)
  rw [he]
  generalize (lg_sl [.ref h0, .int x1, .int x2] ++ List.replicate (5 - (lg_sl [.ref h0, .int x1, .int x2]).length) Slot.unset).toArray = ls at hl ⊢
  have hl : lv_has ls 5 [(0, .ref h0), (1, .int x1), (2, .int x2)] := hl
  generalize hQ : MQ below _ args s _ _ _ = Q
  have lp5 : ∀ (n5 : Nat), ∀ (x1 : Int32) (x2 : Int32) (x3 : Int32) (x4 : Int32), fl_R_countInRow_5 ct su  n5 (x1, x2, x3, x4) = some out → ∀ ls : Array Slot, lv_has ls 5 [(0, .ref h0), (1, .int x1), (2, .int x2), (3, .int x3), (4, .int x4)] → W p l e (headSpec ws_R_countInRow { frames := 0, cells := 0, slots := 0, locals := 0 }).room s m args below meth c s.heap [] 0 0 Q (F0 m 5 ls []) := by
    intro n5
    induction n5 with
    | zero =>
      intro x1 x2 x3 x4 hF
      exact (jv_no hF).elim
    | succ n5 ih5 =>
      intro x1 x2 x3 x4 hF ls hl
      have hF : fb_R_countInRow_5 ct su  (fl_R_countInRow_5 ct su  n5) x1 x2 x3 x4 = some out := hF
      unfold fb_R_countInRow_5 at hF
      refine lv_iload hx hb dd_R_countInRow_5 (lv_at hl 4 rfl) ?_
      refine lv_iload_n hx hb dd_R_countInRow_7 rfl (lv_at hl 2 rfl) ?_
      refine lv_icmp_ge (tgt := 40) hx hb dd_R_countInRow_8 (by decide) (fun c_5 => ?_) (fun c_5 => ?_)
      · have hF := jv_t c_5 hF
        refine lv_iload_n hx hb dd_R_countInRow_40 rfl (lv_at hl 3 rfl) ?_
        subst hQ
        exact W.iret (v := x3) hx hb hr (fun t ht hW => ⟨x3, rfl, (Option.some.inj hF), ht⟩) (fun _ h => by cases h) dd_R_countInRow_41
      · have hF := jv_f c_5 hF
        refine lv_iload hx hb dd_R_countInRow_11 (lv_at hl 4 rfl) ?_
        refine lv_aload_n hx hb dd_R_countInRow_13 rfl (lv_at hl 0 rfl) ?_
        refine va_get (D := (dC, dI)) (ci := 0) (v := .int ct) (C := cn_R) (T := tt_R) (N := 7) hx hb ht in_R hown hK hP 0 rfl rfl 4 (by decide) (ht _ tw_1_45) (fun _ h9 => h9) rfl dd_R_countInRow_14 ?_
        refine lv_icmp_ge (tgt := 40) hx hb dd_R_countInRow_17 (by decide) (fun c_6 => ?_) (fun c_6 => ?_)
        · have hF := jv_t c_6 hF
          refine lv_iload_n hx hb dd_R_countInRow_40 rfl (lv_at hl 3 rfl) ?_
          subst hQ
          exact W.iret (v := x3) hx hb hr (fun t ht hW => ⟨x3, rfl, (Option.some.inj hF), ht⟩) (fun _ h => by cases h) dd_R_countInRow_41
        · have hF := jv_f c_6 hF
          refine lv_aload_n hx hb dd_R_countInRow_20 rfl (lv_at hl 0 rfl) ?_
          refine va_get (D := (dC, dI)) (ci := 0) (v := .ref h3) (C := cn_R) (T := tt_R) (N := 7) hx hb ht in_R hown hK hP 0 rfl rfl 2 (by decide) (ht _ tw_1_43) (fun _ h9 => h9) rfl dd_R_countInRow_21 ?_
          refine lv_iload hx hb dd_R_countInRow_24 (lv_at hl 4 rfl) ?_
          obtain ⟨g_7, hF⟩ := jv_gi hF
          refine va_iald hx hb hK hP 3 0 rfl rfl (jv_in g_7) dd_R_countInRow_26 ?_
          refine lv_iload_n hx hb dd_R_countInRow_27 rfl (lv_at hl 1 rfl) ?_
          refine lv_icmp_ne (tgt := 34) hx hb dd_R_countInRow_28 (by decide) (fun c_8 => ?_) (fun c_8 => ?_)
          · have hF := jv_f c_8 hF
            refine lv_iinc (v := x4 + 1) (lv' := [(4, .int (x4 + 1)), (0, .ref h0), (1, .int x1), (2, .int x2), (3, .int x3)]) hx hb dd_R_countInRow_34 hl (k := 4) rfl rfl (by decide) rfl (fun ls hl => ?_)
            refine lv_goto (tgt := 5) hx hb dd_R_countInRow_37 (by decide) ?_
            exact ih5 x1 x2 x3 (x4 + 1) hF ls (lv_sub hl [1, 2, 3, 4, 0] rfl)
          · have hF := jv_t c_8 hF
            refine lv_iinc (v := x3 + 1) (lv' := [(3, .int (x3 + 1)), (0, .ref h0), (1, .int x1), (2, .int x2), (4, .int x4)]) hx hb dd_R_countInRow_31 hl (k := 3) rfl rfl (by decide) rfl (fun ls hl => ?_)
            refine lv_iinc (v := x4 + 1) (lv' := [(4, .int (x4 + 1)), (3, .int (x3 + 1)), (0, .ref h0), (1, .int x1), (2, .int x2)]) hx hb dd_R_countInRow_34 hl (k := 4) rfl rfl (by decide) rfl (fun ls hl => ?_)
            refine lv_goto (tgt := 5) hx hb dd_R_countInRow_37 (by decide) ?_
            exact ih5 x1 x2 (x3 + 1) (x4 + 1) hF ls (lv_sub hl [2, 3, 4, 1, 0] rfl)
  unfold fn_R_countInRow at hF
  refine lv_iconst (v := 0) hx hb dd_R_countInRow_0 (by decide) ?_
  refine lv_istore_n (lv' := [(3, .int 0), (0, .ref h0), (1, .int x1), (2, .int x2)]) hx hb dd_R_countInRow_1 rfl hl (by decide) rfl (fun ls hl => ?_)
  refine lv_iconst (v := 0) hx hb dd_R_countInRow_2 (by decide) ?_
  refine lv_istore (lv' := [(4, .int 0), (3, .int 0), (0, .ref h0), (1, .int x1), (2, .int x2)]) hx hb dd_R_countInRow_3 hl (by decide) rfl (fun ls hl => ?_)
  exact lp5 4000 x1 x2 0 0 hF ls (lv_sub hl [2, 3, 4, 1, 0] rfl)
set_option maxHeartbeats 40000000 in
set_option maxRecDepth 100000 in
theorem c_R_rowSize (l : Launch) (dC : Nat → ClassId) (dI : Nat → Nat → Nat) (cI cL cC cZ : ClassId) (h0 h1 h2 h3 h4 : Nat) (sz : Nat) (ct : Int32) (lo : Int32) (oc : Int32) (kd : Nat → Int32) (dp : Nat → Int32) (su : Nat → Int32) (nm : Nat → Int64) (x1 : Int32) (out : Int32) (hF : fn_R_rowSize ct su x1 = some out) : Met l yy_R_rowSize ws_R_rowSize { frames := 1, cells := 0, slots := 0, locals := 24 } (mP_ (dC, dI) (tk_ cI cL cC cZ) [(h0, .inr (0, [.ref h1, .ref h2, .ref h3, .ref h4, .int ct, .int lo, .int oc])), (h1, .inl (cI, 24, .inl kd)), (h2, .inl (cI, 24, .inl dp)), (h3, .inl (cI, 24, .inl su)), (h4, .inl (cL, 24, .inr (.inl nm)))] sz [.ref h0, .int x1]) (vp_Si (fun r => r = out)) 0 0 (fun _ => False) := by
  refine Met.ofW (cc := cc_R_rowSize) (maxL := 2) (ret := (some .int)) (by decide) rfl ?_
  intro p e s m args below meth c s₁ B hml hv
  obtain ⟨hargs, hsz, hP, hK, hD0⟩ := hv
  have hx := B.exec
  have hb := B.bytes
  have hr := B.returns
  have hts := atoms_spec (ws := ws_R_rowSize) B.pre
  have ht : ∀ w ∈ TB_, w.before args s = true := fun w h => hts w (List.mem_cons_of_mem _ h)
  have hown : s.vm.findClass cn_R = some m.cls := findClass_of_methodNamed B.named
  have hlocks := B.notSynchronized
  subst hsz
  have hD := hD0.self (sz := s.heap.size)
  generalize hAe : va_A [(h0, .inr (0, [.ref h1, .ref h2, .ref h3, .ref h4, .int ct, .int lo, .int oc])), (h1, .inl (cI, 24, .inl kd)), (h2, .inl (cI, 24, .inl dp)), (h3, .inl (cI, 24, .inl su)), (h4, .inl (cL, 24, .inr (.inl nm)))] s.heap.size = A at hD
  have hA : ∀ q : Nat, s.heap.size ≤ q → A q := fun q h => by rw [← hAe]; exact Or.inr h
  have hS : va_S A s.heap s.heap [] := va_S.rf
  have hP : va_P (dC, dI) vwCl [(h0, .inr (0, [.ref h1, .ref h2, .ref h3, .ref h4, .int ct, .int lo, .int oc])), (h1, .inl (cI, 24, .inl kd)), (h2, .inl (cI, 24, .inl dp)), (h3, .inl (cI, 24, .inl su)), (h4, .inl (cL, 24, .inr (.inl nm)))] s.heap := hP
  have hl := lv_entry [.ref h0, .int x1] (n := 2) (Nat.le_of_ble_eq_true rfl)
  have he : entryFrame m args 2 = _ := (congrArg (fun a => entryFrame m a 2) hargs).trans (lg_entry_eq m [.ref h0, .int x1] 2)
  rw [he]
  generalize (lg_sl [.ref h0, .int x1] ++ List.replicate (2 - (lg_sl [.ref h0, .int x1]).length) Slot.unset).toArray = ls at hl ⊢
  have hl : lv_has ls 2 [(0, .ref h0), (1, .int x1)] := hl
  generalize hQ : MQ below _ args s _ _ _ = Q
  unfold fn_R_rowSize at hF
  refine lv_aload_n hx hb dd_R_rowSize_0 rfl (lv_at hl 0 rfl) ?_
  refine lv_iload_n hx hb dd_R_rowSize_1 rfl (lv_at hl 1 rfl) ?_
  refine lv_aload_n hx hb dd_R_rowSize_2 rfl (lv_at hl 0 rfl) ?_
  refine va_get (D := (dC, dI)) (ci := 0) (v := .int ct) (C := cn_R) (T := tt_R) (N := 7) hx hb ht in_R hown hK hP 0 rfl rfl 4 (by decide) (ht _ tw_1_45) (fun _ h9 => h9) rfl dd_R_rowSize_3 ?_
  obtain ⟨o_6, ho_6, hF⟩ := jv_bi hF
  refine jv_ci (va_runV (C := cn_R) (As := [.int x1, .int ct]) (rest := []) ⟨hx, hb, hml, hown, ht⟩ (c_R_countInRow l dC dI cI cL cC cZ h0 h1 h2 h3 h4 s.heap.size ct lo oc kd dp su nm x1 ct _ ho_6) (cwV 2 ht (gi_V tw_2_39 tw_2_41 tw_p_4 tw_1_3 tw_2_42) rfl rfl rfl (by decide +kernel) ⟨Nat.le_of_ble_eq_true rfl, Nat.le_of_ble_eq_true rfl⟩) (jv_pv hK hP hD [0, 1, 2, 3, 4] rfl (by decide) rfl (va_recv hK hP (ci := 0) (q0 := 0) rfl rfl)) rfl rfl hl.1 rfl (lv_room (Nat.le_of_ble_eq_true rfl)) dd_R_rowSize_6 ⟨Nat.le_of_ble_eq_true rfl, Nat.le_of_ble_eq_true rfl⟩) ?_
  subst hQ
  exact W.iret (v := o_6) hx hb hr (fun t ht hW => ⟨o_6, rfl, (Option.some.inj hF), ht⟩) (fun _ h => by cases h) dd_R_rowSize_9
set_option maxHeartbeats 40000000 in
set_option maxRecDepth 100000 in
theorem c_R_placeOf (l : Launch) (dC : Nat → ClassId) (dI : Nat → Nat → Nat) (cI cL cC cZ : ClassId) (h0 h1 h2 h3 h4 : Nat) (sz : Nat) (ct : Int32) (lo : Int32) (oc : Int32) (kd : Nat → Int32) (dp : Nat → Int32) (su : Nat → Int32) (nm : Nat → Int64) (x1 : Int32) (out : Int32) (hF : fn_R_placeOf ct su x1 = some out) : Met l yy_R_placeOf ws_R_placeOf { frames := 1, cells := 0, slots := 0, locals := 24 } (mP_ (dC, dI) (tk_ cI cL cC cZ) [(h0, .inr (0, [.ref h1, .ref h2, .ref h3, .ref h4, .int ct, .int lo, .int oc])), (h1, .inl (cI, 24, .inl kd)), (h2, .inl (cI, 24, .inl dp)), (h3, .inl (cI, 24, .inl su)), (h4, .inl (cL, 24, .inr (.inl nm)))] sz [.ref h0, .int x1]) (vp_Si (fun r => r = out)) 0 0 (fun _ => False) := by
  refine Met.ofW (cc := cc_R_placeOf) (maxL := 2) (ret := (some .int)) (by decide) rfl ?_
  intro p e s m args below meth c s₁ B hml hv
  obtain ⟨hargs, hsz, hP, hK, hD0⟩ := hv
  have hx := B.exec
  have hb := B.bytes
  have hr := B.returns
  have hts := atoms_spec (ws := ws_R_placeOf) B.pre
  have ht : ∀ w ∈ TB_, w.before args s = true := fun w h => hts w (List.mem_cons_of_mem _ h)
  have hown : s.vm.findClass cn_R = some m.cls := findClass_of_methodNamed B.named
  have hlocks := B.notSynchronized
  subst hsz
  have hD := hD0.self (sz := s.heap.size)
  generalize hAe : va_A [(h0, .inr (0, [.ref h1, .ref h2, .ref h3, .ref h4, .int ct, .int lo, .int oc])), (h1, .inl (cI, 24, .inl kd)), (h2, .inl (cI, 24, .inl dp)), (h3, .inl (cI, 24, .inl su)), (h4, .inl (cL, 24, .inr (.inl nm)))] s.heap.size = A at hD
  have hA : ∀ q : Nat, s.heap.size ≤ q → A q := fun q h => by rw [← hAe]; exact Or.inr h
  have hS : va_S A s.heap s.heap [] := va_S.rf
  have hP : va_P (dC, dI) vwCl [(h0, .inr (0, [.ref h1, .ref h2, .ref h3, .ref h4, .int ct, .int lo, .int oc])), (h1, .inl (cI, 24, .inl kd)), (h2, .inl (cI, 24, .inl dp)), (h3, .inl (cI, 24, .inl su)), (h4, .inl (cL, 24, .inr (.inl nm)))] s.heap := hP
  have hl := lv_entry [.ref h0, .int x1] (n := 2) (Nat.le_of_ble_eq_true rfl)
  have he : entryFrame m args 2 = _ := (congrArg (fun a => entryFrame m a 2) hargs).trans (lg_entry_eq m [.ref h0, .int x1] 2)
  rw [he]
  generalize (lg_sl [.ref h0, .int x1] ++ List.replicate (2 - (lg_sl [.ref h0, .int x1]).length) Slot.unset).toArray = ls at hl ⊢
  have hl : lv_has ls 2 [(0, .ref h0), (1, .int x1)] := hl
  generalize hQ : MQ below _ args s _ _ _ = Q
  unfold fn_R_placeOf at hF
  refine lv_aload_n hx hb dd_R_placeOf_0 rfl (lv_at hl 0 rfl) ?_
  refine lv_iload_n hx hb dd_R_placeOf_1 rfl (lv_at hl 1 rfl) ?_
  obtain ⟨o_2, ho_2, hF⟩ := jv_bi hF
  refine jv_ci (va_runV (C := cn_R) (As := [.int x1]) (rest := []) ⟨hx, hb, hml, hown, ht⟩ (c_R_has l dC dI cI cL cC cZ h0 h1 h2 h3 h4 s.heap.size ct lo oc kd dp su nm x1 _ ho_2) (cwV 1 ht (gi_V tw_1_114 tw_1_115 tw_1_116 tw_1_3 tw_1_117) rfl rfl rfl (by decide +kernel) ⟨Nat.le_of_ble_eq_true rfl, Nat.le_of_ble_eq_true rfl⟩) (jv_pv hK hP hD [0, 1, 2, 3, 4] rfl (by decide) rfl (va_recv hK hP (ci := 0) (q0 := 0) rfl rfl)) rfl rfl hl.1 rfl (lv_room (Nat.le_of_ble_eq_true rfl)) dd_R_placeOf_2 ⟨Nat.le_of_ble_eq_true rfl, Nat.le_of_ble_eq_true rfl⟩) ?_
  refine lv_if_eq (tgt := 24) hx hb dd_R_placeOf_5 (by decide) (fun c_3 => ?_) (fun c_3 => ?_)
  · have hF := jv_t c_3 hF
    refine lv_iconst (v := (-1)) hx hb dd_R_placeOf_24 (by decide) ?_
    subst hQ
    exact W.iret (v := (-1)) hx hb hr (fun t ht hW => ⟨(-1), rfl, (Option.some.inj hF), ht⟩) (fun _ h => by cases h) dd_R_placeOf_25
  · have hF := jv_f c_3 hF
    refine lv_aload_n hx hb dd_R_placeOf_8 rfl (lv_at hl 0 rfl) ?_
    refine lv_aload_n hx hb dd_R_placeOf_9 rfl (lv_at hl 0 rfl) ?_
    refine va_get (D := (dC, dI)) (ci := 0) (v := .ref h3) (C := cn_R) (T := tt_R) (N := 7) hx hb ht in_R hown hK hP 0 rfl rfl 2 (by decide) (ht _ tw_1_43) (fun _ h9 => h9) rfl dd_R_placeOf_10 ?_
    refine lv_iload_n hx hb dd_R_placeOf_13 rfl (lv_at hl 1 rfl) ?_
    obtain ⟨g_4, hF⟩ := jv_gi hF
    refine va_iald hx hb hK hP 3 0 rfl rfl (jv_in g_4) dd_R_placeOf_14 ?_
    refine lv_iload_n hx hb dd_R_placeOf_15 rfl (lv_at hl 1 rfl) ?_
    refine lv_iconst (v := 1) hx hb dd_R_placeOf_16 (by decide) ?_
    refine lv_iadd hx hb dd_R_placeOf_17 ?_
    obtain ⟨o_18, ho_18, hF⟩ := jv_bi hF
    refine jv_ci (va_runV (C := cn_R) (As := [.int (su x1.toNatClampNeg), .int (x1 + 1)]) (rest := []) ⟨hx, hb, hml, hown, ht⟩ (c_R_countInRow l dC dI cI cL cC cZ h0 h1 h2 h3 h4 s.heap.size ct lo oc kd dp su nm (su x1.toNatClampNeg) (x1 + 1) _ ho_18) (cwV 2 ht (gi_V tw_2_39 tw_2_41 tw_p_4 tw_1_3 tw_2_42) rfl rfl rfl (by decide +kernel) ⟨Nat.le_of_ble_eq_true rfl, Nat.le_of_ble_eq_true rfl⟩) (jv_pv hK hP hD [0, 1, 2, 3, 4] rfl (by decide) rfl (va_recv hK hP (ci := 0) (q0 := 0) rfl rfl)) rfl rfl hl.1 rfl (lv_room (Nat.le_of_ble_eq_true rfl)) dd_R_placeOf_18 ⟨Nat.le_of_ble_eq_true rfl, Nat.le_of_ble_eq_true rfl⟩) ?_
    refine lv_goto (tgt := 25) hx hb dd_R_placeOf_21 (by decide) ?_
    subst hQ
    exact W.iret (v := o_18) hx hb hr (fun t ht hW => ⟨o_18, rfl, (Option.some.inj hF), ht⟩) (fun _ h => by cases h) dd_R_placeOf_25
set_option maxHeartbeats 40000000 in
set_option maxRecDepth 100000 in
theorem c_R_closeLastOpen (l : Launch) (dC : Nat → ClassId) (dI : Nat → Nat → Nat) (cI cL cC cZ : ClassId) (h0 h1 h2 h3 h4 : Nat) (sz : Nat) (ct : Int32) (lo : Int32) (oc : Int32) (kd : Nat → Int32) (dp : Nat → Int32) (su : Nat → Int32) (nm : Nat → Int64)  (out : Int32 × Int32 × Int32 × (Nat → Int32)) (hF : fn_R_closeLastOpen ct su lo oc kd = some out) : Met l yy_R_closeLastOpen ws_R_closeLastOpen { frames := 1, cells := 0, slots := 0, locals := 22 } (mP_ (dC, dI) (tk_ cI cL cC cZ) [(h0, .inr (0, [.ref h1, .ref h2, .ref h3, .ref h4, .int ct, .int lo, .int oc])), (h1, .inl (cI, 24, .inl kd)), (h2, .inl (cI, 24, .inl dp)), (h3, .inl (cI, 24, .inl su)), (h4, .inl (cL, 24, .inr (.inl nm)))] sz [.ref h0]) (va_Qi (fun r (_ : Unit) => r = out.1) (mB_ (dC, dI) (tk_ cI cL cC cZ) [(h0, .inr (0, [.ref h1, .ref h2, .ref h3, .ref h4, .int ct, .int out.2.1, .int out.2.2.1])), (h1, .inl (cI, 24, .inl out.2.2.2)), (h2, .inl (cI, 24, .inl dp)), (h3, .inl (cI, 24, .inl su)), (h4, .inl (cL, 24, .inr (.inl nm)))] (va_A [(h0, .inr (0, [.ref h1, .ref h2, .ref h3, .ref h4, .int ct, .int lo, .int oc])), (h1, .inl (cI, 24, .inl kd)), (h2, .inl (cI, 24, .inl dp)), (h3, .inl (cI, 24, .inl su)), (h4, .inl (cL, 24, .inr (.inl nm)))] sz)) (va_A [(h0, .inr (0, [.ref h1, .ref h2, .ref h3, .ref h4, .int ct, .int lo, .int oc])), (h1, .inl (cI, 24, .inl kd)), (h2, .inl (cI, 24, .inl dp)), (h3, .inl (cI, 24, .inl su)), (h4, .inl (cL, 24, .inr (.inl nm)))] sz)) 0 0 (va_A [(h0, .inr (0, [.ref h1, .ref h2, .ref h3, .ref h4, .int ct, .int lo, .int oc])), (h1, .inl (cI, 24, .inl kd)), (h2, .inl (cI, 24, .inl dp)), (h3, .inl (cI, 24, .inl su)), (h4, .inl (cL, 24, .inr (.inl nm)))] sz) := by
  refine Met.ofW (cc := cc_R_closeLastOpen) (maxL := 1) (ret := (some .boolean)) (by decide) rfl ?_
  intro p e s m args below meth c s₁ B hml hv
  obtain ⟨hargs, hsz, hP, hK, hD0⟩ := hv
  have hx := B.exec
  have hb := B.bytes
  have hr := B.returns
  have hts := atoms_spec (ws := ws_R_closeLastOpen) B.pre
  have ht : ∀ w ∈ TB_, w.before args s = true := fun w h => hts w (List.mem_cons_of_mem _ h)
  have hown : s.vm.findClass cn_R = some m.cls := findClass_of_methodNamed B.named
  have hlocks := B.notSynchronized
  subst hsz
  have hD := hD0.self (sz := s.heap.size)
  generalize hAe : va_A [(h0, .inr (0, [.ref h1, .ref h2, .ref h3, .ref h4, .int ct, .int lo, .int oc])), (h1, .inl (cI, 24, .inl kd)), (h2, .inl (cI, 24, .inl dp)), (h3, .inl (cI, 24, .inl su)), (h4, .inl (cL, 24, .inr (.inl nm)))] s.heap.size = A at hD ⊢
  have hA : ∀ q : Nat, s.heap.size ≤ q → A q := fun q h => by rw [← hAe]; exact Or.inr h
  have hS : va_S A s.heap s.heap [] := va_S.rf
  have hP : va_P (dC, dI) vwCl [(h0, .inr (0, [.ref h1, .ref h2, .ref h3, .ref h4, .int ct, .int lo, .int oc])), (h1, .inl (cI, 24, .inl kd)), (h2, .inl (cI, 24, .inl dp)), (h3, .inl (cI, 24, .inl su)), (h4, .inl (cL, 24, .inr (.inl nm)))] s.heap := hP
  have hl := lv_entry [.ref h0] (n := 1) (Nat.le_of_ble_eq_true rfl)
  have he : entryFrame m args 1 = _ := (congrArg (fun a => entryFrame m a 1) hargs).trans (lg_entry_eq m [.ref h0] 1)
  rw [he]
  generalize (lg_sl [.ref h0] ++ List.replicate (1 - (lg_sl [.ref h0]).length) Slot.unset).toArray = ls at hl ⊢
  have hl : lv_has ls 1 [(0, .ref h0)] := hl
  generalize hQ : MQ below _ args s _ _ _ = Q
  have bl37 : ∀ (lo : Int32) (oc : Int32) (kd : Nat → Int32) (y1 : Int32) (y2 : Int32), fb_R_closeLastOpen_37 ct su  lo oc kd y1 y2 = some out → ∀ (H : Heap) (locs : List Loc), va_P (dC, dI) vwCl [(h0, .inr (0, [.ref h1, .ref h2, .ref h3, .ref h4, .int ct, .int lo, .int oc])), (h1, .inl (cI, 24, .inl kd)), (h2, .inl (cI, 24, .inl dp)), (h3, .inl (cI, 24, .inl su)), (h4, .inl (cL, 24, .inr (.inl nm)))] H → va_D A [(h0, .inr (0, [.ref h1, .ref h2, .ref h3, .ref h4, .int ct, .int lo, .int oc])), (h1, .inl (cI, 24, .inl kd)), (h2, .inl (cI, 24, .inl dp)), (h3, .inl (cI, 24, .inl su)), (h4, .inl (cL, 24, .inr (.inl nm)))] → va_S A s.heap H locs → ∀ ls : Array Slot, lv_has ls 1 [(0, .ref h0)] → W p l e (headSpec ws_R_closeLastOpen { frames := 1, cells := 0, slots := 0, locals := 22 }).room s m args below meth c H locs 0 0 Q (F0 m 37 ls [.int y2, .int y1, .ref h1]) := by
    intro lo oc kd y1 y2 hF H locs hP hD hS ls hl
    unfold fb_R_closeLastOpen_37 at hF
    obtain ⟨g_11, hF⟩ := jv_gi hF
    refine va_iast hx hb hK hP hD hS 1 0 rfl rfl (jv_in g_11) dd_R_closeLastOpen_37 (fun H_12 locs_13 hP hD hS => ?_)
    have hP : va_P (dC, dI) vwCl [(h0, .inr (0, [.ref h1, .ref h2, .ref h3, .ref h4, .int ct, .int lo, .int oc])), (h1, .inl (cI, 24, .inl (upd kd y1.toNatClampNeg y2))), (h2, .inl (cI, 24, .inl dp)), (h3, .inl (cI, 24, .inl su)), (h4, .inl (cL, 24, .inr (.inl nm)))] H_12 := hP
    have hD : va_D A [(h0, .inr (0, [.ref h1, .ref h2, .ref h3, .ref h4, .int ct, .int lo, .int oc])), (h1, .inl (cI, 24, .inl (upd kd y1.toNatClampNeg y2))), (h2, .inl (cI, 24, .inl dp)), (h3, .inl (cI, 24, .inl su)), (h4, .inl (cL, 24, .inr (.inl nm)))] := hD
    refine lv_aload_n hx hb dd_R_closeLastOpen_38 rfl (lv_at hl 0 rfl) ?_
    refine lv_aload_n hx hb dd_R_closeLastOpen_39 rfl (lv_at hl 0 rfl) ?_
    refine va_get (D := (dC, dI)) (ci := 0) (v := .ref h3) (C := cn_R) (T := tt_R) (N := 7) hx hb ht in_R hown hK hP 0 rfl rfl 2 (by decide) (ht _ tw_1_43) (fun _ h9 => h9) rfl dd_R_closeLastOpen_40 ?_
    refine lv_aload_n hx hb dd_R_closeLastOpen_43 rfl (lv_at hl 0 rfl) ?_
    refine va_get (D := (dC, dI)) (ci := 0) (v := .int lo) (C := cn_R) (T := tt_R) (N := 7) hx hb ht in_R hown hK hP 0 rfl rfl 5 (by decide) (ht _ tw_1_46) (fun _ h9 => h9) rfl dd_R_closeLastOpen_44 ?_
    obtain ⟨g_14, hF⟩ := jv_gi hF
    refine va_iald hx hb hK hP 3 0 rfl rfl (jv_in g_14) dd_R_closeLastOpen_47 ?_
    refine va_put (D := (dC, dI)) (ci := 0) (v := .int (su lo.toNatClampNeg)) (ty := .int) (C := cn_R) (T := tt_R) (N := 7) hx hb ht in_R ty_R tyok_R nm_R hown hK hP hD hS 0 rfl rfl 5 (by decide) (ht _ tw_1_46) (fun _ h9 => h9) rfl (by decide +kernel) rfl rfl (Nat.le_of_ble_eq_true rfl) dd_R_closeLastOpen_48 (fun H_15 locs_16 hP hD hS => ?_)
    have hP : va_P (dC, dI) vwCl [(h0, .inr (0, [.ref h1, .ref h2, .ref h3, .ref h4, .int ct, .int (su lo.toNatClampNeg), .int oc])), (h1, .inl (cI, 24, .inl (upd kd y1.toNatClampNeg y2))), (h2, .inl (cI, 24, .inl dp)), (h3, .inl (cI, 24, .inl su)), (h4, .inl (cL, 24, .inr (.inl nm)))] H_15 := hP
    have hD : va_D A [(h0, .inr (0, [.ref h1, .ref h2, .ref h3, .ref h4, .int ct, .int (su lo.toNatClampNeg), .int oc])), (h1, .inl (cI, 24, .inl (upd kd y1.toNatClampNeg y2))), (h2, .inl (cI, 24, .inl dp)), (h3, .inl (cI, 24, .inl su)), (h4, .inl (cL, 24, .inr (.inl nm)))] := hD
    refine lv_aload_n hx hb dd_R_closeLastOpen_51 rfl (lv_at hl 0 rfl) ?_
    refine lv_dup hx hb dd_R_closeLastOpen_52 rfl ?_
    refine va_get (D := (dC, dI)) (ci := 0) (v := .int oc) (C := cn_R) (T := tt_R) (N := 7) hx hb ht in_R hown hK hP 0 rfl rfl 6 (by decide) (ht _ tw_1_47) (fun _ h9 => h9) rfl dd_R_closeLastOpen_53 ?_
    refine lv_iconst (v := 1) hx hb dd_R_closeLastOpen_56 (by decide) ?_
    refine lv_isub hx hb dd_R_closeLastOpen_57 ?_
    refine va_put (D := (dC, dI)) (ci := 0) (v := .int (oc - 1)) (ty := .int) (C := cn_R) (T := tt_R) (N := 7) hx hb ht in_R ty_R tyok_R nm_R hown hK hP hD hS 0 rfl rfl 6 (by decide) (ht _ tw_1_47) (fun _ h9 => h9) rfl (by decide +kernel) rfl rfl (Nat.le_of_ble_eq_true rfl) dd_R_closeLastOpen_58 (fun H_17 locs_18 hP hD hS => ?_)
    have hP : va_P (dC, dI) vwCl [(h0, .inr (0, [.ref h1, .ref h2, .ref h3, .ref h4, .int ct, .int (su lo.toNatClampNeg), .int (oc - 1)])), (h1, .inl (cI, 24, .inl (upd kd y1.toNatClampNeg y2))), (h2, .inl (cI, 24, .inl dp)), (h3, .inl (cI, 24, .inl su)), (h4, .inl (cL, 24, .inr (.inl nm)))] H_17 := hP
    have hD : va_D A [(h0, .inr (0, [.ref h1, .ref h2, .ref h3, .ref h4, .int ct, .int (su lo.toNatClampNeg), .int (oc - 1)])), (h1, .inl (cI, 24, .inl (upd kd y1.toNatClampNeg y2))), (h2, .inl (cI, 24, .inl dp)), (h3, .inl (cI, 24, .inl su)), (h4, .inl (cL, 24, .inr (.inl nm)))] := hD
    refine lv_iconst (v := 1) hx hb dd_R_closeLastOpen_61 (by decide) ?_
    subst hQ
    obtain rfl := Option.some.inj hF
    exact W.zret (v := 1) hx hb hr rfl (fun t ht hW => ⟨⟨1, (), rfl, rfl, by rw [ht]; exact hP, va_K.moved hW.alike hK, hD⟩, hS.F ht⟩) hS.2.2 dd_R_closeLastOpen_62
  unfold fn_R_closeLastOpen at hF
  refine lv_aload_n hx hb dd_R_closeLastOpen_0 rfl (lv_at hl 0 rfl) ?_
  refine lv_aload_n hx hb dd_R_closeLastOpen_1 rfl (lv_at hl 0 rfl) ?_
  refine va_get (D := (dC, dI)) (ci := 0) (v := .int lo) (C := cn_R) (T := tt_R) (N := 7) hx hb ht in_R hown hK hP 0 rfl rfl 5 (by decide) (ht _ tw_1_46) (fun _ h9 => h9) rfl dd_R_closeLastOpen_2 ?_
  obtain ⟨o_5, ho_5, hF⟩ := jv_bi hF
  refine jv_ci (va_runV (C := cn_R) (As := [.int lo]) (rest := []) ⟨hx, hb, hml, hown, ht⟩ (c_R_has l dC dI cI cL cC cZ h0 h1 h2 h3 h4 s.heap.size ct lo oc kd dp su nm lo _ ho_5) (cwV 1 ht (gi_V tw_1_114 tw_1_115 tw_1_116 tw_1_3 tw_1_117) rfl rfl rfl (by decide +kernel) ⟨Nat.le_of_ble_eq_true rfl, Nat.le_of_ble_eq_true rfl⟩) (jv_pv hK hP hD [0, 1, 2, 3, 4] rfl (by decide) rfl (va_recv hK hP (ci := 0) (q0 := 0) rfl rfl)) rfl rfl hl.1 rfl (lv_room (Nat.le_of_ble_eq_true rfl)) dd_R_closeLastOpen_5 ⟨Nat.le_of_ble_eq_true rfl, Nat.le_of_ble_eq_true rfl⟩) ?_
  refine lv_if_ne (tgt := 13) hx hb dd_R_closeLastOpen_8 (by decide) (fun c_19 => ?_) (fun c_19 => ?_)
  · have hF := jv_f c_19 hF
    refine lv_aload_n hx hb dd_R_closeLastOpen_13 rfl (lv_at hl 0 rfl) ?_
    refine va_get (D := (dC, dI)) (ci := 0) (v := .ref h1) (C := cn_R) (T := tt_R) (N := 7) hx hb ht in_R hown hK hP 0 rfl rfl 0 (by decide) (ht _ tw_1_41) (fun _ h9 => h9) rfl dd_R_closeLastOpen_14 ?_
    refine lv_aload_n hx hb dd_R_closeLastOpen_17 rfl (lv_at hl 0 rfl) ?_
    refine va_get (D := (dC, dI)) (ci := 0) (v := .int lo) (C := cn_R) (T := tt_R) (N := 7) hx hb ht in_R hown hK hP 0 rfl rfl 5 (by decide) (ht _ tw_1_46) (fun _ h9 => h9) rfl dd_R_closeLastOpen_18 ?_
    refine lv_aload_n hx hb dd_R_closeLastOpen_21 rfl (lv_at hl 0 rfl) ?_
    refine lv_aload_n hx hb dd_R_closeLastOpen_22 rfl (lv_at hl 0 rfl) ?_
    refine va_get (D := (dC, dI)) (ci := 0) (v := .int lo) (C := cn_R) (T := tt_R) (N := 7) hx hb ht in_R hown hK hP 0 rfl rfl 5 (by decide) (ht _ tw_1_46) (fun _ h9 => h9) rfl dd_R_closeLastOpen_23 ?_
    obtain ⟨o_26, ho_26, hF⟩ := jv_bi hF
    refine jv_ci (va_runV (C := cn_R) (As := [.int lo]) (rest := [.int lo, .ref h1]) ⟨hx, hb, hml, hown, ht⟩ (c_R_hasFailedBehind l dC dI cI cL cC cZ h0 h1 h2 h3 h4 s.heap.size ct lo oc kd dp su nm lo _ ho_26) (cwV 1 ht (gi_V tw_1_118 tw_1_120 tw_p_1 tw_1_3 tw_1_121) rfl rfl rfl (by decide +kernel) ⟨Nat.le_of_ble_eq_true rfl, Nat.le_of_ble_eq_true rfl⟩) (jv_pv hK hP hD [0, 1, 2, 3, 4] rfl (by decide) rfl (va_recv hK hP (ci := 0) (q0 := 0) rfl rfl)) rfl rfl hl.1 rfl (lv_room (Nat.le_of_ble_eq_true rfl)) dd_R_closeLastOpen_26 ⟨Nat.le_of_ble_eq_true rfl, Nat.le_of_ble_eq_true rfl⟩) ?_
    refine lv_if_eq (tgt := 36) hx hb dd_R_closeLastOpen_29 (by decide) (fun c_20 => ?_) (fun c_20 => ?_)
    · have hF := jv_t c_20 hF
      refine lv_iconst (v := 4) hx hb dd_R_closeLastOpen_36 (by decide) ?_
      exact bl37 lo oc kd lo 4 hF s.heap [] hP hD hS ls (lv_sub hl [0] rfl)
    · have hF := jv_f c_20 hF
      refine lv_iconst (v := 5) hx hb dd_R_closeLastOpen_32 (by decide) ?_
      refine lv_goto (tgt := 37) hx hb dd_R_closeLastOpen_33 (by decide) ?_
      exact bl37 lo oc kd lo 5 hF s.heap [] hP hD hS ls (lv_sub hl [0] rfl)
  · have hF := jv_t c_19 hF
    refine lv_iconst (v := 0) hx hb dd_R_closeLastOpen_11 (by decide) ?_
    subst hQ
    obtain rfl := Option.some.inj hF
    exact W.zret (v := 0) hx hb hr rfl (fun t ht hW => ⟨⟨0, (), rfl, rfl, by rw [ht]; exact hP, va_K.moved hW.alike hK, hD⟩, hS.F ht⟩) hS.2.2 dd_R_closeLastOpen_12
