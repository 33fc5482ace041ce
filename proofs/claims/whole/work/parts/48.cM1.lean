set_option maxHeartbeats 40000000 in
set_option maxRecDepth 100000 in
theorem c_M_init (l : Launch) (dC : Nat → ClassId) (dI : Nat → Nat → Nat) (cI cL cC cZ : ClassId) (h0 : Nat) (sz : Nat)   (out : Int32 × Int32 × Int32 × Int32 × Int32 × Int32 × Int32 × Int32 × (Nat → Int32) × (Nat → Int32) × (Nat → Int32) × (Nat → Int32) × (Nat → Int32) × (Nat → Int32) × (Nat → Int32) × (Nat → Int32) × (Nat → Int32)) (hF : fn_M_init  = some out) : Met l yy_M_init ws_M_init { frames := 1, cells := 9, slots := 3494, locals := 12 } (mP_ (dC, dI) (tk_ cI cL cC cZ) [(h0, .inr (6, [.int 0, .null, .null, .null, .null, .null, .null, .null, .int 0, .null, .int 0, .int 0, .int 0, .int 0, .int 0, .int 0, .null]))] sz [.ref h0]) (va_Qv (fun _ : Nat × Nat × Nat × Nat × Nat × Nat × Nat × Nat × Nat => True) (mU_ (dC, dI) (tk_ cI cL cC cZ) (fun u : Nat × Nat × Nat × Nat × Nat × Nat × Nat × Nat × Nat => [(h0, .inr (6, [.int out.1, .ref u.1, .ref u.2.1, .ref u.2.2.1, .ref u.2.2.2.1, .ref u.2.2.2.2.1, .ref u.2.2.2.2.2.1, .ref u.2.2.2.2.2.2.1, .int out.2.1, .ref u.2.2.2.2.2.2.2.1, .int out.2.2.1, .int out.2.2.2.1, .int out.2.2.2.2.1, .int out.2.2.2.2.2.1, .int out.2.2.2.2.2.2.1, .int out.2.2.2.2.2.2.2.1, .ref u.2.2.2.2.2.2.2.2])), (u.1, .inl (cC, 6, .inl out.2.2.2.2.2.2.2.2.1)), (u.2.1, .inl (cI, 2, .inl out.2.2.2.2.2.2.2.2.2.1)), (u.2.2.1, .inl (cI, 48, .inl out.2.2.2.2.2.2.2.2.2.2.1)), (u.2.2.2.1, .inl (cI, 48, .inl out.2.2.2.2.2.2.2.2.2.2.2.1)), (u.2.2.2.2.1, .inl (cZ, 48, .inl out.2.2.2.2.2.2.2.2.2.2.2.2.1)), (u.2.2.2.2.2.1, .inl (cI, 48, .inl out.2.2.2.2.2.2.2.2.2.2.2.2.2.1)), (u.2.2.2.2.2.2.1, .inl (cC, 288, .inl out.2.2.2.2.2.2.2.2.2.2.2.2.2.2.1)), (u.2.2.2.2.2.2.2.1, .inl (cC, 3000, .inl out.2.2.2.2.2.2.2.2.2.2.2.2.2.2.2.1)), (u.2.2.2.2.2.2.2.2, .inl (cC, 6, .inl out.2.2.2.2.2.2.2.2.2.2.2.2.2.2.2.2))]) (va_A [(h0, .inr (6, [.int 0, .null, .null, .null, .null, .null, .null, .null, .int 0, .null, .int 0, .int 0, .int 0, .int 0, .int 0, .int 0, .null]))] sz)) (va_A [(h0, .inr (6, [.int 0, .null, .null, .null, .null, .null, .null, .null, .int 0, .null, .int 0, .int 0, .int 0, .int 0, .int 0, .int 0, .null]))] sz)) 9 3494 (va_A [(h0, .inr (6, [.int 0, .null, .null, .null, .null, .null, .null, .null, .int 0, .null, .int 0, .int 0, .int 0, .int 0, .int 0, .int 0, .null]))] sz) := by
  refine Met.ofW (cc := cc_M_init) (maxL := 1) (ret := none) (by decide) rfl ?_
  intro p e s m args below meth c s₁ B hml hv
  obtain ⟨hargs, hsz, hP, hK, hD0⟩ := hv
  have hx := B.exec
  have hb := B.bytes
  have hr := B.returns
  have hts := atoms_spec (ws := ws_M_init) B.pre
  have ht : ∀ w ∈ TB_, w.before args s = true := fun w h => hts w (List.mem_cons_of_mem _ h)
  have hown : s.vm.findClass cn_M = some m.cls := findClass_of_methodNamed B.named
  have hlocks := B.notSynchronized
  have hin : meth.name = "<init>" := (name_of_methodNamed B.named B.method).1
  subst hsz
  have hD := hD0.self (sz := s.heap.size)
  generalize hAe : va_A [(h0, .inr (6, [.int 0, .null, .null, .null, .null, .null, .null, .null, .int 0, .null, .int 0, .int 0, .int 0, .int 0, .int 0, .int 0, .null]))] s.heap.size = A at hD ⊢
  have hA : ∀ q : Nat, s.heap.size ≤ q → A q := fun q h => by rw [← hAe]; exact Or.inr h
  have hS : va_S A s.heap s.heap [] := va_S.rf
  have hP : va_P (dC, dI) vwCl [(h0, .inr (6, [.int 0, .null, .null, .null, .null, .null, .null, .null, .int 0, .null, .int 0, .int 0, .int 0, .int 0, .int 0, .int 0, .null]))] s.heap := hP
  have hl := lv_entry [.ref h0] (n := 1) (Nat.le_of_ble_eq_true rfl)
  have he : entryFrame m args 1 = _ := (congrArg (fun a => entryFrame m a 1) hargs).trans (lg_entry_eq m [.ref h0] 1)
  rw [he]
  generalize (lg_sl [.ref h0] ++ List.replicate (1 - (lg_sl [.ref h0]).length) Slot.unset).toArray = ls at hl ⊢
  have hl : lv_has ls 1 [(0, .ref h0)] := hl
  generalize hQ : MQ below _ args s _ _ _ = Q
  unfold fn_M_init at hF
  refine lv_aload_n hx hb dd_M_init_0 rfl (lv_at hl 0 rfl) ?_
  refine W.objInit hx hb hown (ht _ tw_3_40) (ht _ tw_1_19) (ht _ tw_1_20) rfl (by rw [hml]; exact hl.1) rfl dd_M_init_1 (Nat.le_of_ble_eq_true rfl) (Nat.le_of_ble_eq_true rfl) ?_
  refine W.eq (g2 := F0 m 4 ls []) rfl ?_
  refine lv_aload_n hx hb dd_M_init_4 rfl (lv_at hl 0 rfl) ?_
  refine lv_bipush (v := 6) hx hb dd_M_init_5 (by decide) ?_
  refine jv_nac hx hb (ht _ tw_1_34) hK hP hD hS hA (N' := 6) (a0 := (6, .inl (fun _ => 0))) (fun _ => rfl) (by decide) (by decide) (by decide) (Nat.le_of_ble_eq_true rfl) (Nat.le_of_ble_eq_true rfl) dd_M_init_7 (fun q_37 H_38 hP hD hS => ?_)
  have hP : va_P (dC, dI) vwCl [(h0, .inr (6, [.int 0, .null, .null, .null, .null, .null, .null, .null, .int 0, .null, .int 0, .int 0, .int 0, .int 0, .int 0, .int 0, .null])), (q_37, .inl (cC, 6, .inl (fun _ => 0)))] H_38 := hP
  have hD : va_D A [(h0, .inr (6, [.int 0, .null, .null, .null, .null, .null, .null, .null, .int 0, .null, .int 0, .int 0, .int 0, .int 0, .int 0, .int 0, .null])), (q_37, .inl (cC, 6, .inl (fun _ => 0)))] := hD
  refine va_putF (D := (dC, dI)) (ci := 6) (v := .ref q_37) (ty := (.array .char)) (C := cn_M) (T := tt_M) (N := 17) hx hb ht in_M ty_M tyok_M nm_M hown hK hP hD hS 0 rfl rfl 1 (by decide) (ht _ tw_3_42) (fun _ h9 => h9) rfl hin rfl (by decide +kernel) rfl rfl (Nat.le_of_ble_eq_true rfl) dd_M_init_9 (fun H_39 locs_40 hP hD hS => ?_)
  have hP : va_P (dC, dI) vwCl [(h0, .inr (6, [.int 0, .ref q_37, .null, .null, .null, .null, .null, .null, .int 0, .null, .int 0, .int 0, .int 0, .int 0, .int 0, .int 0, .null])), (q_37, .inl (cC, 6, .inl (fun _ => 0)))] H_39 := hP
  have hD : va_D A [(h0, .inr (6, [.int 0, .ref q_37, .null, .null, .null, .null, .null, .null, .int 0, .null, .int 0, .int 0, .int 0, .int 0, .int 0, .int 0, .null])), (q_37, .inl (cC, 6, .inl (fun _ => 0)))] := hD
  refine lv_aload_n hx hb dd_M_init_12 rfl (lv_at hl 0 rfl) ?_
  refine lv_iconst (v := 2) hx hb dd_M_init_13 (by decide) ?_
  refine jv_nai hx hb (ht _ tw_1_63) hK hP hD hS hA (N' := 2) (a0 := (2, .inl (fun _ => 0))) (fun _ => rfl) (by decide) (by decide) (by decide) (Nat.le_of_ble_eq_true rfl) (Nat.le_of_ble_eq_true rfl) dd_M_init_14 (fun q_41 H_42 hP hD hS => ?_)
  have hP : va_P (dC, dI) vwCl [(h0, .inr (6, [.int 0, .ref q_37, .null, .null, .null, .null, .null, .null, .int 0, .null, .int 0, .int 0, .int 0, .int 0, .int 0, .int 0, .null])), (q_37, .inl (cC, 6, .inl (fun _ => 0))), (q_41, .inl (cI, 2, .inl (fun _ => 0)))] H_42 := hP
  have hD : va_D A [(h0, .inr (6, [.int 0, .ref q_37, .null, .null, .null, .null, .null, .null, .int 0, .null, .int 0, .int 0, .int 0, .int 0, .int 0, .int 0, .null])), (q_37, .inl (cC, 6, .inl (fun _ => 0))), (q_41, .inl (cI, 2, .inl (fun _ => 0)))] := hD
  refine va_putF (D := (dC, dI)) (ci := 6) (v := .ref q_41) (ty := (.array .int)) (C := cn_M) (T := tt_M) (N := 17) hx hb ht in_M ty_M tyok_M nm_M hown hK hP hD hS 0 rfl rfl 2 (by decide) (ht _ tw_3_43) (fun _ h9 => h9) rfl hin rfl (by decide +kernel) rfl rfl (Nat.le_of_ble_eq_true rfl) dd_M_init_16 (fun H_43 locs_44 hP hD hS => ?_)
  have hP : va_P (dC, dI) vwCl [(h0, .inr (6, [.int 0, .ref q_37, .ref q_41, .null, .null, .null, .null, .null, .int 0, .null, .int 0, .int 0, .int 0, .int 0, .int 0, .int 0, .null])), (q_37, .inl (cC, 6, .inl (fun _ => 0))), (q_41, .inl (cI, 2, .inl (fun _ => 0)))] H_43 := hP
  have hD : va_D A [(h0, .inr (6, [.int 0, .ref q_37, .ref q_41, .null, .null, .null, .null, .null, .int 0, .null, .int 0, .int 0, .int 0, .int 0, .int 0, .int 0, .null])), (q_37, .inl (cC, 6, .inl (fun _ => 0))), (q_41, .inl (cI, 2, .inl (fun _ => 0)))] := hD
  refine lv_aload_n hx hb dd_M_init_19 rfl (lv_at hl 0 rfl) ?_
  refine lv_bipush (v := 48) hx hb dd_M_init_20 (by decide) ?_
  refine jv_nai hx hb (ht _ tw_1_63) hK hP hD hS hA (N' := 48) (a0 := (48, .inl (fun _ => 0))) (fun _ => rfl) (by decide) (by decide) (by decide) (Nat.le_of_ble_eq_true rfl) (Nat.le_of_ble_eq_true rfl) dd_M_init_22 (fun q_45 H_46 hP hD hS => ?_)
  have hP : va_P (dC, dI) vwCl [(h0, .inr (6, [.int 0, .ref q_37, .ref q_41, .null, .null, .null, .null, .null, .int 0, .null, .int 0, .int 0, .int 0, .int 0, .int 0, .int 0, .null])), (q_37, .inl (cC, 6, .inl (fun _ => 0))), (q_41, .inl (cI, 2, .inl (fun _ => 0))), (q_45, .inl (cI, 48, .inl (fun _ => 0)))] H_46 := hP
  have hD : va_D A [(h0, .inr (6, [.int 0, .ref q_37, .ref q_41, .null, .null, .null, .null, .null, .int 0, .null, .int 0, .int 0, .int 0, .int 0, .int 0, .int 0, .null])), (q_37, .inl (cC, 6, .inl (fun _ => 0))), (q_41, .inl (cI, 2, .inl (fun _ => 0))), (q_45, .inl (cI, 48, .inl (fun _ => 0)))] := hD
  refine va_putF (D := (dC, dI)) (ci := 6) (v := .ref q_45) (ty := (.array .int)) (C := cn_M) (T := tt_M) (N := 17) hx hb ht in_M ty_M tyok_M nm_M hown hK hP hD hS 0 rfl rfl 3 (by decide) (ht _ tw_3_44) (fun _ h9 => h9) rfl hin rfl (by decide +kernel) rfl rfl (Nat.le_of_ble_eq_true rfl) dd_M_init_24 (fun H_47 locs_48 hP hD hS => ?_)
  have hP : va_P (dC, dI) vwCl [(h0, .inr (6, [.int 0, .ref q_37, .ref q_41, .ref q_45, .null, .null, .null, .null, .int 0, .null, .int 0, .int 0, .int 0, .int 0, .int 0, .int 0, .null])), (q_37, .inl (cC, 6, .inl (fun _ => 0))), (q_41, .inl (cI, 2, .inl (fun _ => 0))), (q_45, .inl (cI, 48, .inl (fun _ => 0)))] H_47 := hP
  have hD : va_D A [(h0, .inr (6, [.int 0, .ref q_37, .ref q_41, .ref q_45, .null, .null, .null, .null, .int 0, .null, .int 0, .int 0, .int 0, .int 0, .int 0, .int 0, .null])), (q_37, .inl (cC, 6, .inl (fun _ => 0))), (q_41, .inl (cI, 2, .inl (fun _ => 0))), (q_45, .inl (cI, 48, .inl (fun _ => 0)))] := hD
  refine lv_aload_n hx hb dd_M_init_27 rfl (lv_at hl 0 rfl) ?_
  refine lv_bipush (v := 48) hx hb dd_M_init_28 (by decide) ?_
  refine jv_nai hx hb (ht _ tw_1_63) hK hP hD hS hA (N' := 48) (a0 := (48, .inl (fun _ => 0))) (fun _ => rfl) (by decide) (by decide) (by decide) (Nat.le_of_ble_eq_true rfl) (Nat.le_of_ble_eq_true rfl) dd_M_init_30 (fun q_49 H_50 hP hD hS => ?_)
  have hP : va_P (dC, dI) vwCl [(h0, .inr (6, [.int 0, .ref q_37, .ref q_41, .ref q_45, .null, .null, .null, .null, .int 0, .null, .int 0, .int 0, .int 0, .int 0, .int 0, .int 0, .null])), (q_37, .inl (cC, 6, .inl (fun _ => 0))), (q_41, .inl (cI, 2, .inl (fun _ => 0))), (q_45, .inl (cI, 48, .inl (fun _ => 0))), (q_49, .inl (cI, 48, .inl (fun _ => 0)))] H_50 := hP
  have hD : va_D A [(h0, .inr (6, [.int 0, .ref q_37, .ref q_41, .ref q_45, .null, .null, .null, .null, .int 0, .null, .int 0, .int 0, .int 0, .int 0, .int 0, .int 0, .null])), (q_37, .inl (cC, 6, .inl (fun _ => 0))), (q_41, .inl (cI, 2, .inl (fun _ => 0))), (q_45, .inl (cI, 48, .inl (fun _ => 0))), (q_49, .inl (cI, 48, .inl (fun _ => 0)))] := hD
  refine va_putF (D := (dC, dI)) (ci := 6) (v := .ref q_49) (ty := (.array .int)) (C := cn_M) (T := tt_M) (N := 17) hx hb ht in_M ty_M tyok_M nm_M hown hK hP hD hS 0 rfl rfl 4 (by decide) (ht _ tw_3_45) (fun _ h9 => h9) rfl hin rfl (by decide +kernel) rfl rfl (Nat.le_of_ble_eq_true rfl) dd_M_init_32 (fun H_51 locs_52 hP hD hS => ?_)
  have hP : va_P (dC, dI) vwCl [(h0, .inr (6, [.int 0, .ref q_37, .ref q_41, .ref q_45, .ref q_49, .null, .null, .null, .int 0, .null, .int 0, .int 0, .int 0, .int 0, .int 0, .int 0, .null])), (q_37, .inl (cC, 6, .inl (fun _ => 0))), (q_41, .inl (cI, 2, .inl (fun _ => 0))), (q_45, .inl (cI, 48, .inl (fun _ => 0))), (q_49, .inl (cI, 48, .inl (fun _ => 0)))] H_51 := hP
  have hD : va_D A [(h0, .inr (6, [.int 0, .ref q_37, .ref q_41, .ref q_45, .ref q_49, .null, .null, .null, .int 0, .null, .int 0, .int 0, .int 0, .int 0, .int 0, .int 0, .null])), (q_37, .inl (cC, 6, .inl (fun _ => 0))), (q_41, .inl (cI, 2, .inl (fun _ => 0))), (q_45, .inl (cI, 48, .inl (fun _ => 0))), (q_49, .inl (cI, 48, .inl (fun _ => 0)))] := hD
  refine lv_aload_n hx hb dd_M_init_35 rfl (lv_at hl 0 rfl) ?_
  refine lv_bipush (v := 48) hx hb dd_M_init_36 (by decide) ?_
  refine jv_naz hx hb (ht _ tw_3_93) hK hP hD hS hA (N' := 48) (a0 := (48, .inl (fun _ => 0))) (fun _ => rfl) (by decide) (by decide) (by decide) (Nat.le_of_ble_eq_true rfl) (Nat.le_of_ble_eq_true rfl) dd_M_init_38 (fun q_53 H_54 hP hD hS => ?_)
  have hP : va_P (dC, dI) vwCl [(h0, .inr (6, [.int 0, .ref q_37, .ref q_41, .ref q_45, .ref q_49, .null, .null, .null, .int 0, .null, .int 0, .int 0, .int 0, .int 0, .int 0, .int 0, .null])), (q_37, .inl (cC, 6, .inl (fun _ => 0))), (q_41, .inl (cI, 2, .inl (fun _ => 0))), (q_45, .inl (cI, 48, .inl (fun _ => 0))), (q_49, .inl (cI, 48, .inl (fun _ => 0))), (q_53, .inl (cZ, 48, .inl (fun _ => 0)))] H_54 := hP
  have hD : va_D A [(h0, .inr (6, [.int 0, .ref q_37, .ref q_41, .ref q_45, .ref q_49, .null, .null, .null, .int 0, .null, .int 0, .int 0, .int 0, .int 0, .int 0, .int 0, .null])), (q_37, .inl (cC, 6, .inl (fun _ => 0))), (q_41, .inl (cI, 2, .inl (fun _ => 0))), (q_45, .inl (cI, 48, .inl (fun _ => 0))), (q_49, .inl (cI, 48, .inl (fun _ => 0))), (q_53, .inl (cZ, 48, .inl (fun _ => 0)))] := hD
  refine va_putF (D := (dC, dI)) (ci := 6) (v := .ref q_53) (ty := (.array .boolean)) (C := cn_M) (T := tt_M) (N := 17) hx hb ht in_M ty_M tyok_M nm_M hown hK hP hD hS 0 rfl rfl 5 (by decide) (ht _ tw_3_46) (fun _ h9 => h9) rfl hin rfl (by decide +kernel) rfl rfl (Nat.le_of_ble_eq_true rfl) dd_M_init_40 (fun H_55 locs_56 hP hD hS => ?_)
  have hP : va_P (dC, dI) vwCl [(h0, .inr (6, [.int 0, .ref q_37, .ref q_41, .ref q_45, .ref q_49, .ref q_53, .null, .null, .int 0, .null, .int 0, .int 0, .int 0, .int 0, .int 0, .int 0, .null])), (q_37, .inl (cC, 6, .inl (fun _ => 0))), (q_41, .inl (cI, 2, .inl (fun _ => 0))), (q_45, .inl (cI, 48, .inl (fun _ => 0))), (q_49, .inl (cI, 48, .inl (fun _ => 0))), (q_53, .inl (cZ, 48, .inl (fun _ => 0)))] H_55 := hP
  have hD : va_D A [(h0, .inr (6, [.int 0, .ref q_37, .ref q_41, .ref q_45, .ref q_49, .ref q_53, .null, .null, .int 0, .null, .int 0, .int 0, .int 0, .int 0, .int 0, .int 0, .null])), (q_37, .inl (cC, 6, .inl (fun _ => 0))), (q_41, .inl (cI, 2, .inl (fun _ => 0))), (q_45, .inl (cI, 48, .inl (fun _ => 0))), (q_49, .inl (cI, 48, .inl (fun _ => 0))), (q_53, .inl (cZ, 48, .inl (fun _ => 0)))] := hD
  refine lv_aload_n hx hb dd_M_init_43 rfl (lv_at hl 0 rfl) ?_
  refine lv_bipush (v := 48) hx hb dd_M_init_44 (by decide) ?_
  refine jv_nai hx hb (ht _ tw_1_63) hK hP hD hS hA (N' := 48) (a0 := (48, .inl (fun _ => 0))) (fun _ => rfl) (by decide) (by decide) (by decide) (Nat.le_of_ble_eq_true rfl) (Nat.le_of_ble_eq_true rfl) dd_M_init_46 (fun q_57 H_58 hP hD hS => ?_)
  have hP : va_P (dC, dI) vwCl [(h0, .inr (6, [.int 0, .ref q_37, .ref q_41, .ref q_45, .ref q_49, .ref q_53, .null, .null, .int 0, .null, .int 0, .int 0, .int 0, .int 0, .int 0, .int 0, .null])), (q_37, .inl (cC, 6, .inl (fun _ => 0))), (q_41, .inl (cI, 2, .inl (fun _ => 0))), (q_45, .inl (cI, 48, .inl (fun _ => 0))), (q_49, .inl (cI, 48, .inl (fun _ => 0))), (q_53, .inl (cZ, 48, .inl (fun _ => 0))), (q_57, .inl (cI, 48, .inl (fun _ => 0)))] H_58 := hP
  have hD : va_D A [(h0, .inr (6, [.int 0, .ref q_37, .ref q_41, .ref q_45, .ref q_49, .ref q_53, .null, .null, .int 0, .null, .int 0, .int 0, .int 0, .int 0, .int 0, .int 0, .null])), (q_37, .inl (cC, 6, .inl (fun _ => 0))), (q_41, .inl (cI, 2, .inl (fun _ => 0))), (q_45, .inl (cI, 48, .inl (fun _ => 0))), (q_49, .inl (cI, 48, .inl (fun _ => 0))), (q_53, .inl (cZ, 48, .inl (fun _ => 0))), (q_57, .inl (cI, 48, .inl (fun _ => 0)))] := hD
  refine va_putF (D := (dC, dI)) (ci := 6) (v := .ref q_57) (ty := (.array .int)) (C := cn_M) (T := tt_M) (N := 17) hx hb ht in_M ty_M tyok_M nm_M hown hK hP hD hS 0 rfl rfl 6 (by decide) (ht _ tw_3_47) (fun _ h9 => h9) rfl hin rfl (by decide +kernel) rfl rfl (Nat.le_of_ble_eq_true rfl) dd_M_init_48 (fun H_59 locs_60 hP hD hS => ?_)
  have hP : va_P (dC, dI) vwCl [(h0, .inr (6, [.int 0, .ref q_37, .ref q_41, .ref q_45, .ref q_49, .ref q_53, .ref q_57, .null, .int 0, .null, .int 0, .int 0, .int 0, .int 0, .int 0, .int 0, .null])), (q_37, .inl (cC, 6, .inl (fun _ => 0))), (q_41, .inl (cI, 2, .inl (fun _ => 0))), (q_45, .inl (cI, 48, .inl (fun _ => 0))), (q_49, .inl (cI, 48, .inl (fun _ => 0))), (q_53, .inl (cZ, 48, .inl (fun _ => 0))), (q_57, .inl (cI, 48, .inl (fun _ => 0)))] H_59 := hP
  have hD : va_D A [(h0, .inr (6, [.int 0, .ref q_37, .ref q_41, .ref q_45, .ref q_49, .ref q_53, .ref q_57, .null, .int 0, .null, .int 0, .int 0, .int 0, .int 0, .int 0, .int 0, .null])), (q_37, .inl (cC, 6, .inl (fun _ => 0))), (q_41, .inl (cI, 2, .inl (fun _ => 0))), (q_45, .inl (cI, 48, .inl (fun _ => 0))), (q_49, .inl (cI, 48, .inl (fun _ => 0))), (q_53, .inl (cZ, 48, .inl (fun _ => 0))), (q_57, .inl (cI, 48, .inl (fun _ => 0)))] := hD
  refine lv_aload_n hx hb dd_M_init_51 rfl (lv_at hl 0 rfl) ?_
  refine lv_sipush (v := 288) hx hb dd_M_init_52 (by decide) ?_
  refine jv_nac hx hb (ht _ tw_1_34) hK hP hD hS hA (N' := 288) (a0 := (288, .inl (fun _ => 0))) (fun _ => rfl) (by decide) (by decide) (by decide) (Nat.le_of_ble_eq_true rfl) (Nat.le_of_ble_eq_true rfl) dd_M_init_55 (fun q_61 H_62 hP hD hS => ?_)
  have hP : va_P (dC, dI) vwCl [(h0, .inr (6, [.int 0, .ref q_37, .ref q_41, .ref q_45, .ref q_49, .ref q_53, .ref q_57, .null, .int 0, .null, .int 0, .int 0, .int 0, .int 0, .int 0, .int 0, .null])), (q_37, .inl (cC, 6, .inl (fun _ => 0))), (q_41, .inl (cI, 2, .inl (fun _ => 0))), (q_45, .inl (cI, 48, .inl (fun _ => 0))), (q_49, .inl (cI, 48, .inl (fun _ => 0))), (q_53, .inl (cZ, 48, .inl (fun _ => 0))), (q_57, .inl (cI, 48, .inl (fun _ => 0))), (q_61, .inl (cC, 288, .inl (fun _ => 0)))] H_62 := hP
  have hD : va_D A [(h0, .inr (6, [.int 0, .ref q_37, .ref q_41, .ref q_45, .ref q_49, .ref q_53, .ref q_57, .null, .int 0, .null, .int 0, .int 0, .int 0, .int 0, .int 0, .int 0, .null])), (q_37, .inl (cC, 6, .inl (fun _ => 0))), (q_41, .inl (cI, 2, .inl (fun _ => 0))), (q_45, .inl (cI, 48, .inl (fun _ => 0))), (q_49, .inl (cI, 48, .inl (fun _ => 0))), (q_53, .inl (cZ, 48, .inl (fun _ => 0))), (q_57, .inl (cI, 48, .inl (fun _ => 0))), (q_61, .inl (cC, 288, .inl (fun _ => 0)))] := hD
  refine va_putF (D := (dC, dI)) (ci := 6) (v := .ref q_61) (ty := (.array .char)) (C := cn_M) (T := tt_M) (N := 17) hx hb ht in_M ty_M tyok_M nm_M hown hK hP hD hS 0 rfl rfl 7 (by decide) (ht _ tw_3_48) (fun _ h9 => h9) rfl hin rfl (by decide +kernel) rfl rfl (Nat.le_of_ble_eq_true rfl) dd_M_init_57 (fun H_63 locs_64 hP hD hS => ?_)
  have hP : va_P (dC, dI) vwCl [(h0, .inr (6, [.int 0, .ref q_37, .ref q_41, .ref q_45, .ref q_49, .ref q_53, .ref q_57, .ref q_61, .int 0, .null, .int 0, .int 0, .int 0, .int 0, .int 0, .int 0, .null])), (q_37, .inl (cC, 6, .inl (fun _ => 0))), (q_41, .inl (cI, 2, .inl (fun _ => 0))), (q_45, .inl (cI, 48, .inl (fun _ => 0))), (q_49, .inl (cI, 48, .inl (fun _ => 0))), (q_53, .inl (cZ, 48, .inl (fun _ => 0))), (q_57, .inl (cI, 48, .inl (fun _ => 0))), (q_61, .inl (cC, 288, .inl (fun _ => 0)))] H_63 := hP
  have hD : va_D A [(h0, .inr (6, [.int 0, .ref q_37, .ref q_41, .ref q_45, .ref q_49, .ref q_53, .ref q_57, .ref q_61, .int 0, .null, .int 0, .int 0, .int 0, .int 0, .int 0, .int 0, .null])), (q_37, .inl (cC, 6, .inl (fun _ => 0))), (q_41, .inl (cI, 2, .inl (fun _ => 0))), (q_45, .inl (cI, 48, .inl (fun _ => 0))), (q_49, .inl (cI, 48, .inl (fun _ => 0))), (q_53, .inl (cZ, 48, .inl (fun _ => 0))), (q_57, .inl (cI, 48, .inl (fun _ => 0))), (q_61, .inl (cC, 288, .inl (fun _ => 0)))] := hD
  refine lv_aload_n hx hb dd_M_init_60 rfl (lv_at hl 0 rfl) ?_
  refine lv_sipush (v := 3000) hx hb dd_M_init_61 (by decide) ?_
  refine jv_nac hx hb (ht _ tw_1_34) hK hP hD hS hA (N' := 3000) (a0 := (3000, .inl (fun _ => 0))) (fun _ => rfl) (by decide) (by decide) (by decide) (Nat.le_of_ble_eq_true rfl) (Nat.le_of_ble_eq_true rfl) dd_M_init_64 (fun q_65 H_66 hP hD hS => ?_)
  have hP : va_P (dC, dI) vwCl [(h0, .inr (6, [.int 0, .ref q_37, .ref q_41, .ref q_45, .ref q_49, .ref q_53, .ref q_57, .ref q_61, .int 0, .null, .int 0, .int 0, .int 0, .int 0, .int 0, .int 0, .null])), (q_37, .inl (cC, 6, .inl (fun _ => 0))), (q_41, .inl (cI, 2, .inl (fun _ => 0))), (q_45, .inl (cI, 48, .inl (fun _ => 0))), (q_49, .inl (cI, 48, .inl (fun _ => 0))), (q_53, .inl (cZ, 48, .inl (fun _ => 0))), (q_57, .inl (cI, 48, .inl (fun _ => 0))), (q_61, .inl (cC, 288, .inl (fun _ => 0))), (q_65, .inl (cC, 3000, .inl (fun _ => 0)))] H_66 := hP
  have hD : va_D A [(h0, .inr (6, [.int 0, .ref q_37, .ref q_41, .ref q_45, .ref q_49, .ref q_53, .ref q_57, .ref q_61, .int 0, .null, .int 0, .int 0, .int 0, .int 0, .int 0, .int 0, .null])), (q_37, .inl (cC, 6, .inl (fun _ => 0))), (q_41, .inl (cI, 2, .inl (fun _ => 0))), (q_45, .inl (cI, 48, .inl (fun _ => 0))), (q_49, .inl (cI, 48, .inl (fun _ => 0))), (q_53, .inl (cZ, 48, .inl (fun _ => 0))), (q_57, .inl (cI, 48, .inl (fun _ => 0))), (q_61, .inl (cC, 288, .inl (fun _ => 0))), (q_65, .inl (cC, 3000, .inl (fun _ => 0)))] := hD
  refine va_putF (D := (dC, dI)) (ci := 6) (v := .ref q_65) (ty := (.array .char)) (C := cn_M) (T := tt_M) (N := 17) hx hb ht in_M ty_M tyok_M nm_M hown hK hP hD hS 0 rfl rfl 9 (by decide) (ht _ tw_3_50) (fun _ h9 => h9) rfl hin rfl (by decide +kernel) rfl rfl (Nat.le_of_ble_eq_true rfl) dd_M_init_66 (fun H_67 locs_68 hP hD hS => ?_)
  have hP : va_P (dC, dI) vwCl [(h0, .inr (6, [.int 0, .ref q_37, .ref q_41, .ref q_45, .ref q_49, .ref q_53, .ref q_57, .ref q_61, .int 0, .ref q_65, .int 0, .int 0, .int 0, .int 0, .int 0, .int 0, .null])), (q_37, .inl (cC, 6, .inl (fun _ => 0))), (q_41, .inl (cI, 2, .inl (fun _ => 0))), (q_45, .inl (cI, 48, .inl (fun _ => 0))), (q_49, .inl (cI, 48, .inl (fun _ => 0))), (q_53, .inl (cZ, 48, .inl (fun _ => 0))), (q_57, .inl (cI, 48, .inl (fun _ => 0))), (q_61, .inl (cC, 288, .inl (fun _ => 0))), (q_65, .inl (cC, 3000, .inl (fun _ => 0)))] H_67 := hP
  have hD : va_D A [(h0, .inr (6, [.int 0, .ref q_37, .ref q_41, .ref q_45, .ref q_49, .ref q_53, .ref q_57, .ref q_61, .int 0, .ref q_65, .int 0, .int 0, .int 0, .int 0, .int 0, .int 0, .null])), (q_37, .inl (cC, 6, .inl (fun _ => 0))), (q_41, .inl (cI, 2, .inl (fun _ => 0))), (q_45, .inl (cI, 48, .inl (fun _ => 0))), (q_49, .inl (cI, 48, .inl (fun _ => 0))), (q_53, .inl (cZ, 48, .inl (fun _ => 0))), (q_57, .inl (cI, 48, .inl (fun _ => 0))), (q_61, .inl (cC, 288, .inl (fun _ => 0))), (q_65, .inl (cC, 3000, .inl (fun _ => 0)))] := hD
  refine lv_aload_n hx hb dd_M_init_69 rfl (lv_at hl 0 rfl) ?_
  refine lv_bipush (v := 6) hx hb dd_M_init_70 (by decide) ?_
  refine jv_nac hx hb (ht _ tw_1_34) hK hP hD hS hA (N' := 6) (a0 := (6, .inl (fun _ => 0))) (fun _ => rfl) (by decide) (by decide) (by decide) (Nat.le_of_ble_eq_true rfl) (Nat.le_of_ble_eq_true rfl) dd_M_init_72 (fun q_69 H_70 hP hD hS => ?_)
  have hP : va_P (dC, dI) vwCl [(h0, .inr (6, [.int 0, .ref q_37, .ref q_41, .ref q_45, .ref q_49, .ref q_53, .ref q_57, .ref q_61, .int 0, .ref q_65, .int 0, .int 0, .int 0, .int 0, .int 0, .int 0, .null])), (q_37, .inl (cC, 6, .inl (fun _ => 0))), (q_41, .inl (cI, 2, .inl (fun _ => 0))), (q_45, .inl (cI, 48, .inl (fun _ => 0))), (q_49, .inl (cI, 48, .inl (fun _ => 0))), (q_53, .inl (cZ, 48, .inl (fun _ => 0))), (q_57, .inl (cI, 48, .inl (fun _ => 0))), (q_61, .inl (cC, 288, .inl (fun _ => 0))), (q_65, .inl (cC, 3000, .inl (fun _ => 0))), (q_69, .inl (cC, 6, .inl (fun _ => 0)))] H_70 := hP
  have hD : va_D A [(h0, .inr (6, [.int 0, .ref q_37, .ref q_41, .ref q_45, .ref q_49, .ref q_53, .ref q_57, .ref q_61, .int 0, .ref q_65, .int 0, .int 0, .int 0, .int 0, .int 0, .int 0, .null])), (q_37, .inl (cC, 6, .inl (fun _ => 0))), (q_41, .inl (cI, 2, .inl (fun _ => 0))), (q_45, .inl (cI, 48, .inl (fun _ => 0))), (q_49, .inl (cI, 48, .inl (fun _ => 0))), (q_53, .inl (cZ, 48, .inl (fun _ => 0))), (q_57, .inl (cI, 48, .inl (fun _ => 0))), (q_61, .inl (cC, 288, .inl (fun _ => 0))), (q_65, .inl (cC, 3000, .inl (fun _ => 0))), (q_69, .inl (cC, 6, .inl (fun _ => 0)))] := hD
  refine va_putF (D := (dC, dI)) (ci := 6) (v := .ref q_69) (ty := (.array .char)) (C := cn_M) (T := tt_M) (N := 17) hx hb ht in_M ty_M tyok_M nm_M hown hK hP hD hS 0 rfl rfl 16 (by decide) (ht _ tw_3_57) (fun _ h9 => h9) rfl hin rfl (by decide +kernel) rfl rfl (Nat.le_of_ble_eq_true rfl) dd_M_init_74 (fun H_71 locs_72 hP hD hS => ?_)
  have hP : va_P (dC, dI) vwCl [(h0, .inr (6, [.int 0, .ref q_37, .ref q_41, .ref q_45, .ref q_49, .ref q_53, .ref q_57, .ref q_61, .int 0, .ref q_65, .int 0, .int 0, .int 0, .int 0, .int 0, .int 0, .ref q_69])), (q_37, .inl (cC, 6, .inl (fun _ => 0))), (q_41, .inl (cI, 2, .inl (fun _ => 0))), (q_45, .inl (cI, 48, .inl (fun _ => 0))), (q_49, .inl (cI, 48, .inl (fun _ => 0))), (q_53, .inl (cZ, 48, .inl (fun _ => 0))), (q_57, .inl (cI, 48, .inl (fun _ => 0))), (q_61, .inl (cC, 288, .inl (fun _ => 0))), (q_65, .inl (cC, 3000, .inl (fun _ => 0))), (q_69, .inl (cC, 6, .inl (fun _ => 0)))] H_71 := hP
  have hD : va_D A [(h0, .inr (6, [.int 0, .ref q_37, .ref q_41, .ref q_45, .ref q_49, .ref q_53, .ref q_57, .ref q_61, .int 0, .ref q_65, .int 0, .int 0, .int 0, .int 0, .int 0, .int 0, .ref q_69])), (q_37, .inl (cC, 6, .inl (fun _ => 0))), (q_41, .inl (cI, 2, .inl (fun _ => 0))), (q_45, .inl (cI, 48, .inl (fun _ => 0))), (q_49, .inl (cI, 48, .inl (fun _ => 0))), (q_53, .inl (cZ, 48, .inl (fun _ => 0))), (q_57, .inl (cI, 48, .inl (fun _ => 0))), (q_61, .inl (cC, 288, .inl (fun _ => 0))), (q_65, .inl (cC, 3000, .inl (fun _ => 0))), (q_69, .inl (cC, 6, .inl (fun _ => 0)))] := hD
  subst hQ
  obtain rfl := Option.some.inj hF
  have hP := hP.sub (ws' := [(h0, .inr (6, [.int 0, .ref q_37, .ref q_41, .ref q_45, .ref q_49, .ref q_53, .ref q_57, .ref q_61, .int 0, .ref q_65, .int 0, .int 0, .int 0, .int 0, .int 0, .int 0, .ref q_69])), (q_37, .inl (cC, 6, .inl (fun _ => 0))), (q_41, .inl (cI, 2, .inl (fun _ => 0))), (q_45, .inl (cI, 48, .inl (fun _ => 0))), (q_49, .inl (cI, 48, .inl (fun _ => 0))), (q_53, .inl (cZ, 48, .inl (fun _ => 0))), (q_57, .inl (cI, 48, .inl (fun _ => 0))), (q_61, .inl (cC, 288, .inl (fun _ => 0))), (q_65, .inl (cC, 3000, .inl (fun _ => 0))), (q_69, .inl (cC, 6, .inl (fun _ => 0)))]) [0, 1, 2, 3, 4, 5, 6, 7, 8, 9] rfl
  have hD := hD.sub (ws' := [(h0, .inr (6, [.int 0, .ref q_37, .ref q_41, .ref q_45, .ref q_49, .ref q_53, .ref q_57, .ref q_61, .int 0, .ref q_65, .int 0, .int 0, .int 0, .int 0, .int 0, .int 0, .ref q_69])), (q_37, .inl (cC, 6, .inl (fun _ => 0))), (q_41, .inl (cI, 2, .inl (fun _ => 0))), (q_45, .inl (cI, 48, .inl (fun _ => 0))), (q_49, .inl (cI, 48, .inl (fun _ => 0))), (q_53, .inl (cZ, 48, .inl (fun _ => 0))), (q_57, .inl (cI, 48, .inl (fun _ => 0))), (q_61, .inl (cC, 288, .inl (fun _ => 0))), (q_65, .inl (cC, 3000, .inl (fun _ => 0))), (q_69, .inl (cC, 6, .inl (fun _ => 0)))]) [0, 1, 2, 3, 4, 5, 6, 7, 8, 9] (by decide) rfl
  exact W.vret hx hb hr (fun t ht hW => ⟨⟨(q_37, q_41, q_45, q_49, q_53, q_57, q_61, q_65, q_69), rfl, trivial, by rw [ht]; exact hP, va_K.moved hW.alike hK, hD⟩, hS.F ht⟩) hS.2.2 dd_M_init_77
set_option maxHeartbeats 40000000 in
set_option maxRecDepth 100000 in
theorem c_M_part (l : Launch) (dC : Nat → ClassId) (dI : Nat → Nat → Nat) (cI cL cC cZ : ClassId) (sz : Nat)  (x0 : Int32) (x1 : Int32) (out : Int64) (hF : fn_M_part x0 x1 = some out) : Met l yy_M_part ws_M_part { frames := 0, cells := 0, slots := 0, locals := 0 } (mP_ (dC, dI) (tk_ cI cL cC cZ) [] sz [.int x0, .int x1]) (vp_Sl (fun r => r = out)) 0 0 (fun _ => False) := by
  refine Met.ofW (cc := cc_M_part) (maxL := 2) (ret := (some .long)) (by decide) rfl ?_
  intro p e s m args below meth c s₁ B hml hv
  obtain ⟨hargs, hsz, hP, hK, hD0⟩ := hv
  have hx := B.exec
  have hb := B.bytes
  have hr := B.returns
  have hts := atoms_spec (ws := ws_M_part) B.pre
  have ht : ∀ w ∈ TB_, w.before args s = true := fun w h => hts w (List.mem_cons_of_mem _ h)
  have hown : s.vm.findClass cn_M = some m.cls := findClass_of_methodNamed B.named
  have hlocks := B.notSynchronized
  subst hsz
  have hD := hD0.self (sz := s.heap.size)
  generalize hAe : va_A [] s.heap.size = A at hD
  have hA : ∀ q : Nat, s.heap.size ≤ q → A q := fun q h => by rw [← hAe]; exact Or.inr h
  have hS : va_S A s.heap s.heap [] := va_S.rf
  have hP : va_P (dC, dI) vwCl [] s.heap := hP
  have hl := lv_entry [.int x0, .int x1] (n := 2) (Nat.le_of_ble_eq_true rfl)
  have he : entryFrame m args 2 = _ := (congrArg (fun a => entryFrame m a 2) hargs).trans (lg_entry_eq m [.int x0, .int x1] 2)
  rw [he]
  generalize (lg_sl [.int x0, .int x1] ++ List.replicate (2 - (lg_sl [.int x0, .int x1]).length) Slot.unset).toArray = ls at hl ⊢
  have hl : lv_has ls 2 [(0, .int x0), (1, .int x1)] := hl
  generalize hQ : MQ below _ args s _ _ _ = Q
  unfold fn_M_part at hF
  refine lv_iload_n hx hb dd_M_part_0 rfl (lv_at hl 0 rfl) ?_
  by_cases c_19 : x0 = 0
  · have hF := jv_t c_19 hF
    refine lv_tableIn (tgt := 52) hx hb dd_M_part_1 (by rw [c_19]; decide) (by rw [c_19]; decide) (by rw [c_19]; rfl) (by decide) ?_
    refine lv_iload_n hx hb dd_M_part_52 rfl (lv_at hl 1 rfl) ?_
    refine lv_if_ne (tgt := 62) hx hb dd_M_part_53 (by decide) (fun c_20 => ?_) (fun c_20 => ?_)
    · have hF := jv_f c_20 hF
      refine lv_ldc2 (v := 57385602150249) hx hb hown (ht _ tw_3_169) dd_M_part_62 ?_
      subst hQ
      exact W.lret (v := 57385602150249) hx hb hr (fun t ht hW => ⟨57385602150249, rfl, (Option.some.inj hF), ht⟩) (fun _ h => by cases h) dd_M_part_65
    · have hF := jv_t c_20 hF
      refine lv_ldc2 (v := 8318823019729404244) hx hb hown (ht _ tw_3_168) dd_M_part_56 ?_
      refine lv_goto (tgt := 65) hx hb dd_M_part_59 (by decide) ?_
      subst hQ
      exact W.lret (v := 8318823019729404244) hx hb hr (fun t ht hW => ⟨8318823019729404244, rfl, (Option.some.inj hF), ht⟩) (fun _ h => by cases h) dd_M_part_65
  have hF := jv_f c_19 hF
  by_cases c_21 : x0 = 1
  · have hF := jv_t c_21 hF
    refine lv_tableIn (tgt := 66) hx hb dd_M_part_1 (by rw [c_21]; decide) (by rw [c_21]; decide) (by rw [c_21]; rfl) (by decide) ?_
    refine lv_iload_n hx hb dd_M_part_66 rfl (lv_at hl 1 rfl) ?_
    refine lv_if_ne (tgt := 76) hx hb dd_M_part_67 (by decide) (fun c_22 => ?_) (fun c_22 => ?_)
    · have hF := jv_f c_22 hF
      refine lv_lconst (v := 0) hx hb dd_M_part_76 (by decide) ?_
      subst hQ
      exact W.lret (v := 0) hx hb hr (fun t ht hW => ⟨0, rfl, (Option.some.inj hF), ht⟩) (fun _ h => by cases h) dd_M_part_77
    · have hF := jv_t c_22 hF
      refine lv_ldc2 (v := 2124655) hx hb hown (ht _ tw_3_170) dd_M_part_70 ?_
      refine lv_goto (tgt := 77) hx hb dd_M_part_73 (by decide) ?_
      subst hQ
      exact W.lret (v := 2124655) hx hb hr (fun t ht hW => ⟨2124655, rfl, (Option.some.inj hF), ht⟩) (fun _ h => by cases h) dd_M_part_77
  have hF := jv_f c_21 hF
  by_cases c_23 : x0 = 2
  · have hF := jv_t c_23 hF
    refine lv_tableIn (tgt := 78) hx hb dd_M_part_1 (by rw [c_23]; decide) (by rw [c_23]; decide) (by rw [c_23]; rfl) (by decide) ?_
    refine lv_iload_n hx hb dd_M_part_78 rfl (lv_at hl 1 rfl) ?_
    refine lv_if_ne (tgt := 88) hx hb dd_M_part_79 (by decide) (fun c_24 => ?_) (fun c_24 => ?_)
    · have hF := jv_f c_24 hF
      refine lv_lconst (v := 0) hx hb dd_M_part_88 (by decide) ?_
      subst hQ
      exact W.lret (v := 0) hx hb hr (fun t ht hW => ⟨0, rfl, (Option.some.inj hF), ht⟩) (fun _ h => by cases h) dd_M_part_89
    · have hF := jv_t c_24 hF
      refine lv_ldc2 (v := 9125324284784494) hx hb hown (ht _ tw_3_171) dd_M_part_82 ?_
      refine lv_goto (tgt := 89) hx hb dd_M_part_85 (by decide) ?_
      subst hQ
      exact W.lret (v := 9125324284784494) hx hb hr (fun t ht hW => ⟨9125324284784494, rfl, (Option.some.inj hF), ht⟩) (fun _ h => by cases h) dd_M_part_89
  have hF := jv_f c_23 hF
  by_cases c_25 : x0 = 3
  · have hF := jv_t c_25 hF
    refine lv_tableIn (tgt := 90) hx hb dd_M_part_1 (by rw [c_25]; decide) (by rw [c_25]; decide) (by rw [c_25]; rfl) (by decide) ?_
    refine lv_iload_n hx hb dd_M_part_90 rfl (lv_at hl 1 rfl) ?_
    refine lv_if_ne (tgt := 100) hx hb dd_M_part_91 (by decide) (fun c_26 => ?_) (fun c_26 => ?_)
    · have hF := jv_f c_26 hF
      refine lv_lconst (v := 0) hx hb dd_M_part_100 (by decide) ?_
      subst hQ
      exact W.lret (v := 0) hx hb hr (fun t ht hW => ⟨0, rfl, (Option.some.inj hF), ht⟩) (fun _ h => by cases h) dd_M_part_101
    · have hF := jv_t c_26 hF
      refine lv_ldc2 (v := 2108704) hx hb hown (ht _ tw_3_172) dd_M_part_94 ?_
      refine lv_goto (tgt := 101) hx hb dd_M_part_97 (by decide) ?_
      subst hQ
      exact W.lret (v := 2108704) hx hb hr (fun t ht hW => ⟨2108704, rfl, (Option.some.inj hF), ht⟩) (fun _ h => by cases h) dd_M_part_101
  have hF := jv_f c_25 hF
  by_cases c_27 : x0 = 4
  · have hF := jv_t c_27 hF
    refine lv_tableIn (tgt := 102) hx hb dd_M_part_1 (by rw [c_27]; decide) (by rw [c_27]; decide) (by rw [c_27]; rfl) (by decide) ?_
    refine lv_iload_n hx hb dd_M_part_102 rfl (lv_at hl 1 rfl) ?_
    refine lv_if_ne (tgt := 112) hx hb dd_M_part_103 (by decide) (fun c_28 => ?_) (fun c_28 => ?_)
    · have hF := jv_f c_28 hF
      refine lv_lconst (v := 0) hx hb dd_M_part_112 (by decide) ?_
      subst hQ
      exact W.lret (v := 0) hx hb hr (fun t ht hW => ⟨0, rfl, (Option.some.inj hF), ht⟩) (fun _ h => by cases h) dd_M_part_113
    · have hF := jv_t c_28 hF
      refine lv_ldc2 (v := 22598586002842400) hx hb hown (ht _ tw_3_173) dd_M_part_106 ?_
      refine lv_goto (tgt := 113) hx hb dd_M_part_109 (by decide) ?_
      subst hQ
      exact W.lret (v := 22598586002842400) hx hb hr (fun t ht hW => ⟨22598586002842400, rfl, (Option.some.inj hF), ht⟩) (fun _ h => by cases h) dd_M_part_113
  have hF := jv_f c_27 hF
  by_cases c_29 : x0 = 5
  · have hF := jv_t c_29 hF
    refine lv_tableIn (tgt := 114) hx hb dd_M_part_1 (by rw [c_29]; decide) (by rw [c_29]; decide) (by rw [c_29]; rfl) (by decide) ?_
    refine lv_iload_n hx hb dd_M_part_114 rfl (lv_at hl 1 rfl) ?_
    refine lv_if_ne (tgt := 124) hx hb dd_M_part_115 (by decide) (fun c_30 => ?_) (fun c_30 => ?_)
    · have hF := jv_f c_30 hF
      refine lv_lconst (v := 0) hx hb dd_M_part_124 (by decide) ?_
      subst hQ
      exact W.lret (v := 0) hx hb hr (fun t ht hW => ⟨0, rfl, (Option.some.inj hF), ht⟩) (fun _ h => by cases h) dd_M_part_125
    · have hF := jv_t c_30 hF
      refine lv_ldc2 (v := 22311630664639264) hx hb hown (ht _ tw_3_174) dd_M_part_118 ?_
      refine lv_goto (tgt := 125) hx hb dd_M_part_121 (by decide) ?_
      subst hQ
      exact W.lret (v := 22311630664639264) hx hb hr (fun t ht hW => ⟨22311630664639264, rfl, (Option.some.inj hF), ht⟩) (fun _ h => by cases h) dd_M_part_125
  have hF := jv_f c_29 hF
  by_cases c_31 : x0 = 6
  · have hF := jv_t c_31 hF
    refine lv_tableIn (tgt := 126) hx hb dd_M_part_1 (by rw [c_31]; decide) (by rw [c_31]; decide) (by rw [c_31]; rfl) (by decide) ?_
    refine lv_iload_n hx hb dd_M_part_126 rfl (lv_at hl 1 rfl) ?_
    refine lv_if_ne (tgt := 136) hx hb dd_M_part_127 (by decide) (fun c_32 => ?_) (fun c_32 => ?_)
    · have hF := jv_f c_32 hF
      refine lv_ldc2 (v := 2112116) hx hb hown (ht _ tw_3_176) dd_M_part_136 ?_
      subst hQ
      exact W.lret (v := 2112116) hx hb hr (fun t ht hW => ⟨2112116, rfl, (Option.some.inj hF), ht⟩) (fun _ h => by cases h) dd_M_part_139
    · have hF := jv_t c_32 hF
      refine lv_ldc2 (v := 8315180253233487907) hx hb hown (ht _ tw_3_175) dd_M_part_130 ?_
      refine lv_goto (tgt := 139) hx hb dd_M_part_133 (by decide) ?_
      subst hQ
      exact W.lret (v := 8315180253233487907) hx hb hr (fun t ht hW => ⟨8315180253233487907, rfl, (Option.some.inj hF), ht⟩) (fun _ h => by cases h) dd_M_part_139
  have hF := jv_f c_31 hF
  by_cases c_33 : x0 = 7
  · have hF := jv_t c_33 hF
    refine lv_tableIn (tgt := 140) hx hb dd_M_part_1 (by rw [c_33]; decide) (by rw [c_33]; decide) (by rw [c_33]; rfl) (by decide) ?_
    refine lv_iload_n hx hb dd_M_part_140 rfl (lv_at hl 1 rfl) ?_
    refine lv_if_ne (tgt := 150) hx hb dd_M_part_141 (by decide) (fun c_34 => ?_) (fun c_34 => ?_)
    · have hF := jv_f c_34 hF
      refine lv_lconst (v := 0) hx hb dd_M_part_150 (by decide) ?_
      subst hQ
      exact W.lret (v := 0) hx hb hr (fun t ht hW => ⟨0, rfl, (Option.some.inj hF), ht⟩) (fun _ h => by cases h) dd_M_part_151
    · have hF := jv_t c_34 hF
      refine lv_ldc2 (v := 3026481) hx hb hown (ht _ tw_3_177) dd_M_part_144 ?_
      refine lv_goto (tgt := 151) hx hb dd_M_part_147 (by decide) ?_
      subst hQ
      exact W.lret (v := 3026481) hx hb hr (fun t ht hW => ⟨3026481, rfl, (Option.some.inj hF), ht⟩) (fun _ h => by cases h) dd_M_part_151
  have hF := jv_f c_33 hF
  by_cases c_35 : x0 = 8
  · have hF := jv_t c_35 hF
    refine lv_tableIn (tgt := 152) hx hb dd_M_part_1 (by rw [c_35]; decide) (by rw [c_35]; decide) (by rw [c_35]; rfl) (by decide) ?_
    refine lv_iload_n hx hb dd_M_part_152 rfl (lv_at hl 1 rfl) ?_
    refine lv_if_ne (tgt := 162) hx hb dd_M_part_153 (by decide) (fun c_36 => ?_) (fun c_36 => ?_)
    · have hF := jv_f c_36 hF
      refine lv_ldc2 (v := 33) hx hb hown (ht _ tw_3_179) dd_M_part_162 ?_
      subst hQ
      exact W.lret (v := 33) hx hb hr (fun t ht hW => ⟨33, rfl, (Option.some.inj hF), ht⟩) (fun _ h => by cases h) dd_M_part_165
    · have hF := jv_t c_36 hF
      refine lv_ldc2 (v := 8391735665723269442) hx hb hown (ht _ tw_3_178) dd_M_part_156 ?_
      refine lv_goto (tgt := 165) hx hb dd_M_part_159 (by decide) ?_
      subst hQ
      exact W.lret (v := 8391735665723269442) hx hb hr (fun t ht hW => ⟨8391735665723269442, rfl, (Option.some.inj hF), ht⟩) (fun _ h => by cases h) dd_M_part_165
  have hF := jv_f c_35 hF
  refine lv_tableOut (tgt := 166) hx hb dd_M_part_1 (by have n0 := lv_neT c_19 (show (0 : Int32).toInt = 0 from by decide); have n1 := lv_neT c_21 (show (1 : Int32).toInt = 1 from by decide); have n2 := lv_neT c_23 (show (2 : Int32).toInt = 2 from by decide); have n3 := lv_neT c_25 (show (3 : Int32).toInt = 3 from by decide); have n4 := lv_neT c_27 (show (4 : Int32).toInt = 4 from by decide); have n5 := lv_neT c_29 (show (5 : Int32).toInt = 5 from by decide); have n6 := lv_neT c_31 (show (6 : Int32).toInt = 6 from by decide); have n7 := lv_neT c_33 (show (7 : Int32).toInt = 7 from by decide); have n8 := lv_neT c_35 (show (8 : Int32).toInt = 8 from by decide); omega) (by decide) ?_
  refine lv_lconst (v := 0) hx hb dd_M_part_166 (by decide) ?_
  subst hQ
  exact W.lret (v := 0) hx hb hr (fun t ht hW => ⟨0, rfl, (Option.some.inj hF), ht⟩) (fun _ h => by cases h) dd_M_part_167
set_option maxHeartbeats 40000000 in
set_option maxRecDepth 100000 in
theorem c_M_letterOf (l : Launch) (dC : Nat → ClassId) (dI : Nat → Nat → Nat) (cI cL cC cZ : ClassId) (sz : Nat)  (x0 : Int32) (x1 : Int32) (out : Int32) (hF : fn_M_letterOf x0 x1 = some out) : Met l yy_M_letterOf ws_M_letterOf { frames := 1, cells := 0, slots := 0, locals := 21 } (mP_ (dC, dI) (tk_ cI cL cC cZ) [] sz [.int x0, .int x1]) (vp_Si (fun r => r = out)) 0 0 (fun _ => False) := by
  refine Met.ofW (cc := cc_M_letterOf) (maxL := 4) (ret := (some .char)) (by decide) rfl ?_
  intro p e s m args below meth c s₁ B hml hv
  obtain ⟨hargs, hsz, hP, hK, hD0⟩ := hv
  have hx := B.exec
  have hb := B.bytes
  have hr := B.returns
  have hts := atoms_spec (ws := ws_M_letterOf) B.pre
  have ht : ∀ w ∈ TB_, w.before args s = true := fun w h => hts w (List.mem_cons_of_mem _ h)
  have hown : s.vm.findClass cn_M = some m.cls := findClass_of_methodNamed B.named
  have hlocks := B.notSynchronized
  subst hsz
  have hD := hD0.self (sz := s.heap.size)
  generalize hAe : va_A [] s.heap.size = A at hD
  have hA : ∀ q : Nat, s.heap.size ≤ q → A q := fun q h => by rw [← hAe]; exact Or.inr h
  have hS : va_S A s.heap s.heap [] := va_S.rf
  have hP : va_P (dC, dI) vwCl [] s.heap := hP
  have hl := lv_entry [.int x0, .int x1] (n := 4) (Nat.le_of_ble_eq_true rfl)
  have he : entryFrame m args 4 = _ := (congrArg (fun a => entryFrame m a 4) hargs).trans (lg_entry_eq m [.int x0, .int x1] 4)
  rw [he]
  generalize (lg_sl [.int x0, .int x1] ++ List.replicate (4 - (lg_sl [.int x0, .int x1]).length) Slot.unset).toArray = ls at hl ⊢
  have hl : lv_has ls 4 [(0, .int x0), (1, .int x1)] := hl
  generalize hQ : MQ below _ args s _ _ _ = Q
  unfold fn_M_letterOf at hF
  refine lv_iload_n hx hb dd_M_letterOf_0 rfl (lv_at hl 0 rfl) ?_
  refine lv_iload_n hx hb dd_M_letterOf_1 rfl (lv_at hl 1 rfl) ?_
  refine lv_bipush (v := 8) hx hb dd_M_letterOf_2 (by decide) ?_
  refine lv_idiv hx hb dd_M_letterOf_4 (by decide) ?_
  obtain ⟨o_5, ho_5, hF⟩ := jv_bi hF
  refine jv_cl (va_runS (As := [.int x0, .int (x1 / 8)]) (rest := []) ⟨hx, hb, hml, hown, ht⟩ (c_M_part l dC dI cI cL cC cZ s.heap.size x0 (x1 / 8) _ ho_5) (va_cwS 2 ht (gi_S tw_3_165 tw_3_166 tw_1_4 tw_3_167) rfl rfl rfl (by decide +kernel) ⟨Nat.le_of_ble_eq_true rfl, Nat.le_of_ble_eq_true rfl⟩) (jv_ps hK hP hD [] rfl (by decide) rfl) rfl rfl hl.1 rfl (lv_room (Nat.le_of_ble_eq_true rfl)) dd_M_letterOf_5 ⟨Nat.le_of_ble_eq_true rfl, Nat.le_of_ble_eq_true rfl⟩) ?_
  refine lv_lstore_n (lv' := [(2, .long o_5), (0, .int x0), (1, .int x1)]) hx hb dd_M_letterOf_8 rfl hl (by decide) rfl (fun ls hl => ?_)
  refine lv_iload_n hx hb dd_M_letterOf_9 rfl (lv_at hl 2 rfl) ?_
  refine lv_bipush (v := 15) hx hb dd_M_letterOf_10 (by decide) ?_
  refine lv_icmp_le (tgt := 19) hx hb dd_M_letterOf_12 (by decide) (fun c_2 => ?_) (fun c_2 => ?_)
  · have hF := jv_t c_2 hF
    refine lv_lload_n hx hb dd_M_letterOf_19 rfl (lv_at hl 0 rfl) ?_
    refine lv_bipush (v := 8) hx hb dd_M_letterOf_20 (by decide) ?_
    refine lv_iload_n hx hb dd_M_letterOf_22 rfl (lv_at hl 2 rfl) ?_
    refine lv_bipush (v := 8) hx hb dd_M_letterOf_23 (by decide) ?_
    refine lv_irem hx hb dd_M_letterOf_25 (by decide) ?_
    refine lv_imul hx hb dd_M_letterOf_26 ?_
    refine lv_lshr hx hb dd_M_letterOf_27 rfl ?_
    refine lv_ldc2 (v := 255) hx hb hown (ht _ tw_3_180) dd_M_letterOf_28 ?_
    refine lv_land hx hb dd_M_letterOf_31 ?_
    refine lv_l2i hx hb dd_M_letterOf_32 rfl ?_
    refine lv_i2c hx hb dd_M_letterOf_33 rfl ?_
    subst hQ
    exact W.zret (v := ((((o_5 >>> ((8 * (x1 - x1 / 8 * 8)).toInt64 &&& 63)) &&& 255).toInt32).toUInt32 % 65536).toInt32) hx hb hr (pk_nc _) (fun t ht hW => ⟨((((o_5 >>> ((8 * (x1 - x1 / 8 * 8)).toInt64 &&& 63)) &&& 255).toInt32).toUInt32 % 65536).toInt32, rfl, (Option.some.inj hF), ht⟩) (fun _ h => by cases h) dd_M_letterOf_34
  · have hF := jv_f c_2 hF
    refine lv_iconst (v := 0) hx hb dd_M_letterOf_15 (by decide) ?_
    refine lv_goto (tgt := 34) hx hb dd_M_letterOf_16 (by decide) ?_
    subst hQ
    exact W.zret (v := 0) hx hb hr rfl (fun t ht hW => ⟨0, rfl, (Option.some.inj hF), ht⟩) (fun _ h => by cases h) dd_M_letterOf_34
set_option maxHeartbeats 40000000 in
set_option maxRecDepth 100000 in
theorem c_M_letter (l : Launch) (dC : Nat → ClassId) (dI : Nat → Nat → Nat) (cI cL cC cZ : ClassId) (h0 h1 h2 h3 h4 h5 h6 h7 h8 h9 : Nat) (sz : Nat) (bg : Int32) (ln : Int32) (mt : Int32) (en : Int32) (sx : Int32) (pl : Int32) (ov : Int32) (tk : Int32) (na : Nat → Int32) (cu : Nat → Int32) (pa : Nat → Int32) (re : Nat → Int32) (cl : Nat → Int32) (si : Nat → Int32) (lt : Nat → Int32) (pg : Nat → Int32) (rd : Nat → Int32) (x1 : Int32) (out : Int32 × Int32 × (Nat → Int32)) (hF : fn_M_letter bg na x1 = some out) : Met l yy_M_letter ws_M_letter { frames := 0, cells := 0, slots := 0, locals := 0 } (mP_ (dC, dI) (tk_ cI cL cC cZ) [(h0, .inr (6, [.int bg, .ref h1, .ref h2, .ref h3, .ref h4, .ref h5, .ref h6, .ref h7, .int ln, .ref h8, .int mt, .int en, .int sx, .int pl, .int ov, .int tk, .ref h9])), (h1, .inl (cC, 6, .inl na)), (h2, .inl (cI, 2, .inl cu)), (h3, .inl (cI, 48, .inl pa)), (h4, .inl (cI, 48, .inl re)), (h5, .inl (cZ, 48, .inl cl)), (h6, .inl (cI, 48, .inl si)), (h7, .inl (cC, 288, .inl lt)), (h8, .inl (cC, 3000, .inl pg)), (h9, .inl (cC, 6, .inl rd))] sz [.ref h0, .int x1]) (va_Qi (fun r (_ : Unit) => r = out.1) (mB_ (dC, dI) (tk_ cI cL cC cZ) [(h0, .inr (6, [.int out.2.1, .ref h1, .ref h2, .ref h3, .ref h4, .ref h5, .ref h6, .ref h7, .int ln, .ref h8, .int mt, .int en, .int sx, .int pl, .int ov, .int tk, .ref h9])), (h1, .inl (cC, 6, .inl out.2.2)), (h2, .inl (cI, 2, .inl cu)), (h3, .inl (cI, 48, .inl pa)), (h4, .inl (cI, 48, .inl re)), (h5, .inl (cZ, 48, .inl cl)), (h6, .inl (cI, 48, .inl si)), (h7, .inl (cC, 288, .inl lt)), (h8, .inl (cC, 3000, .inl pg)), (h9, .inl (cC, 6, .inl rd))] (va_A [(h0, .inr (6, [.int bg, .ref h1, .ref h2, .ref h3, .ref h4, .ref h5, .ref h6, .ref h7, .int ln, .ref h8, .int mt, .int en, .int sx, .int pl, .int ov, .int tk, .ref h9])), (h1, .inl (cC, 6, .inl na)), (h2, .inl (cI, 2, .inl cu)), (h3, .inl (cI, 48, .inl pa)), (h4, .inl (cI, 48, .inl re)), (h5, .inl (cZ, 48, .inl cl)), (h6, .inl (cI, 48, .inl si)), (h7, .inl (cC, 288, .inl lt)), (h8, .inl (cC, 3000, .inl pg)), (h9, .inl (cC, 6, .inl rd))] sz)) (va_A [(h0, .inr (6, [.int bg, .ref h1, .ref h2, .ref h3, .ref h4, .ref h5, .ref h6, .ref h7, .int ln, .ref h8, .int mt, .int en, .int sx, .int pl, .int ov, .int tk, .ref h9])), (h1, .inl (cC, 6, .inl na)), (h2, .inl (cI, 2, .inl cu)), (h3, .inl (cI, 48, .inl pa)), (h4, .inl (cI, 48, .inl re)), (h5, .inl (cZ, 48, .inl cl)), (h6, .inl (cI, 48, .inl si)), (h7, .inl (cC, 288, .inl lt)), (h8, .inl (cC, 3000, .inl pg)), (h9, .inl (cC, 6, .inl rd))] sz)) 0 0 (va_A [(h0, .inr (6, [.int bg, .ref h1, .ref h2, .ref h3, .ref h4, .ref h5, .ref h6, .ref h7, .int ln, .ref h8, .int mt, .int en, .int sx, .int pl, .int ov, .int tk, .ref h9])), (h1, .inl (cC, 6, .inl na)), (h2, .inl (cI, 2, .inl cu)), (h3, .inl (cI, 48, .inl pa)), (h4, .inl (cI, 48, .inl re)), (h5, .inl (cZ, 48, .inl cl)), (h6, .inl (cI, 48, .inl si)), (h7, .inl (cC, 288, .inl lt)), (h8, .inl (cC, 3000, .inl pg)), (h9, .inl (cC, 6, .inl rd))] sz) := by
  refine Met.ofW (cc := cc_M_letter) (maxL := 2) (ret := (some .boolean)) (by decide) rfl ?_
  intro p e s m args below meth c s₁ B hml hv
  obtain ⟨hargs, hsz, hP, hK, hD0⟩ := hv
  have hx := B.exec
  have hb := B.bytes
  have hr := B.returns
  have hts := atoms_spec (ws := ws_M_letter) B.pre
  have ht : ∀ w ∈ TB_, w.before args s = true := fun w h => hts w (List.mem_cons_of_mem _ h)
  have hown : s.vm.findClass cn_M = some m.cls := findClass_of_methodNamed B.named
  have hlocks := B.notSynchronized
  subst hsz
  have hD := hD0.self (sz := s.heap.size)
  generalize hAe : va_A [(h0, .inr (6, [.int bg, .ref h1, .ref h2, .ref h3, .ref h4, .ref h5, .ref h6, .ref h7, .int ln, .ref h8, .int mt, .int en, .int sx, .int pl, .int ov, .int tk, .ref h9])), (h1, .inl (cC, 6, .inl na)), (h2, .inl (cI, 2, .inl cu)), (h3, .inl (cI, 48, .inl pa)), (h4, .inl (cI, 48, .inl re)), (h5, .inl (cZ, 48, .inl cl)), (h6, .inl (cI, 48, .inl si)), (h7, .inl (cC, 288, .inl lt)), (h8, .inl (cC, 3000, .inl pg)), (h9, .inl (cC, 6, .inl rd))] s.heap.size = A at hD ⊢
  have hA : ∀ q : Nat, s.heap.size ≤ q → A q := fun q h => by rw [← hAe]; exact Or.inr h
  have hS : va_S A s.heap s.heap [] := va_S.rf
  have hP : va_P (dC, dI) vwCl [(h0, .inr (6, [.int bg, .ref h1, .ref h2, .ref h3, .ref h4, .ref h5, .ref h6, .ref h7, .int ln, .ref h8, .int mt, .int en, .int sx, .int pl, .int ov, .int tk, .ref h9])), (h1, .inl (cC, 6, .inl na)), (h2, .inl (cI, 2, .inl cu)), (h3, .inl (cI, 48, .inl pa)), (h4, .inl (cI, 48, .inl re)), (h5, .inl (cZ, 48, .inl cl)), (h6, .inl (cI, 48, .inl si)), (h7, .inl (cC, 288, .inl lt)), (h8, .inl (cC, 3000, .inl pg)), (h9, .inl (cC, 6, .inl rd))] s.heap := hP
  have hl := lv_entry [.ref h0, .int x1] (n := 2) (Nat.le_of_ble_eq_true rfl)
  have he : entryFrame m args 2 = _ := (congrArg (fun a => entryFrame m a 2) hargs).trans (lg_entry_eq m [.ref h0, .int x1] 2)
  rw [he]
  generalize (lg_sl [.ref h0, .int x1] ++ List.replicate (2 - (lg_sl [.ref h0, .int x1]).length) Slot.unset).toArray = ls at hl ⊢
  have hl : lv_has ls 2 [(0, .ref h0), (1, .int x1)] := hl
  generalize hQ : MQ below _ args s _ _ _ = Q
  unfold fn_M_letter at hF
  refine lv_iload_n hx hb dd_M_letter_0 rfl (lv_at hl 1 rfl) ?_
  refine lv_bipush (v := 32) hx hb dd_M_letter_1 (by decide) ?_
  refine lv_icmp_lt (tgt := 21) hx hb dd_M_letter_3 (by decide) (fun c_9 => ?_) (fun c_9 => ?_)
  · have hF := jv_t c_9 hF
    refine lv_iconst (v := 0) hx hb dd_M_letter_21 (by decide) ?_
    subst hQ
    obtain rfl := Option.some.inj hF
    exact W.zret (v := 0) hx hb hr rfl (fun t ht hW => ⟨⟨0, (), rfl, rfl, by rw [ht]; exact hP, va_K.moved hW.alike hK, hD⟩, hS.F ht⟩) hS.2.2 dd_M_letter_22
  · have hF := jv_f c_9 hF
    refine lv_iload_n hx hb dd_M_letter_6 rfl (lv_at hl 1 rfl) ?_
    refine lv_bipush (v := 126) hx hb dd_M_letter_7 (by decide) ?_
    refine lv_icmp_gt (tgt := 21) hx hb dd_M_letter_9 (by decide) (fun c_10 => ?_) (fun c_10 => ?_)
    · have hF := jv_t c_10 hF
      refine lv_iconst (v := 0) hx hb dd_M_letter_21 (by decide) ?_
      subst hQ
      obtain rfl := Option.some.inj hF
      exact W.zret (v := 0) hx hb hr rfl (fun t ht hW => ⟨⟨0, (), rfl, rfl, by rw [ht]; exact hP, va_K.moved hW.alike hK, hD⟩, hS.F ht⟩) hS.2.2 dd_M_letter_22
    · have hF := jv_f c_10 hF
      refine lv_aload_n hx hb dd_M_letter_12 rfl (lv_at hl 0 rfl) ?_
      refine va_get (D := (dC, dI)) (ci := 6) (v := .int bg) (C := cn_M) (T := tt_M) (N := 17) hx hb ht in_M hown hK hP 0 rfl rfl 0 (by decide) (ht _ tw_3_41) (fun _ h9 => h9) rfl dd_M_letter_13 ?_
      refine lv_bipush (v := 6) hx hb dd_M_letter_16 (by decide) ?_
      refine lv_icmp_ne (tgt := 23) hx hb dd_M_letter_18 (by decide) (fun c_11 => ?_) (fun c_11 => ?_)
      · have hF := jv_f c_11 hF
        refine lv_aload_n hx hb dd_M_letter_23 rfl (lv_at hl 0 rfl) ?_
        refine va_get (D := (dC, dI)) (ci := 6) (v := .ref h1) (C := cn_M) (T := tt_M) (N := 17) hx hb ht in_M hown hK hP 0 rfl rfl 1 (by decide) (ht _ tw_3_42) (fun _ h9 => h9) rfl dd_M_letter_24 ?_
        refine lv_aload_n hx hb dd_M_letter_27 rfl (lv_at hl 0 rfl) ?_
        refine va_get (D := (dC, dI)) (ci := 6) (v := .int bg) (C := cn_M) (T := tt_M) (N := 17) hx hb ht in_M hown hK hP 0 rfl rfl 0 (by decide) (ht _ tw_3_41) (fun _ h9 => h9) rfl dd_M_letter_28 ?_
        refine lv_iload_n hx hb dd_M_letter_31 rfl (lv_at hl 1 rfl) ?_
        obtain ⟨g_12, hF⟩ := jv_gi hF
        refine va_cast hx hb hK hP hD hS 1 2 rfl rfl (jv_in g_12) dd_M_letter_32 (fun H_13 locs_14 hP hD hS => ?_)
        have hP : va_P (dC, dI) vwCl [(h0, .inr (6, [.int bg, .ref h1, .ref h2, .ref h3, .ref h4, .ref h5, .ref h6, .ref h7, .int ln, .ref h8, .int mt, .int en, .int sx, .int pl, .int ov, .int tk, .ref h9])), (h1, .inl (cC, 6, .inl (upd na bg.toNatClampNeg (vp_nar .char x1)))), (h2, .inl (cI, 2, .inl cu)), (h3, .inl (cI, 48, .inl pa)), (h4, .inl (cI, 48, .inl re)), (h5, .inl (cZ, 48, .inl cl)), (h6, .inl (cI, 48, .inl si)), (h7, .inl (cC, 288, .inl lt)), (h8, .inl (cC, 3000, .inl pg)), (h9, .inl (cC, 6, .inl rd))] H_13 := hP
        have hD : va_D A [(h0, .inr (6, [.int bg, .ref h1, .ref h2, .ref h3, .ref h4, .ref h5, .ref h6, .ref h7, .int ln, .ref h8, .int mt, .int en, .int sx, .int pl, .int ov, .int tk, .ref h9])), (h1, .inl (cC, 6, .inl (upd na bg.toNatClampNeg (vp_nar .char x1)))), (h2, .inl (cI, 2, .inl cu)), (h3, .inl (cI, 48, .inl pa)), (h4, .inl (cI, 48, .inl re)), (h5, .inl (cZ, 48, .inl cl)), (h6, .inl (cI, 48, .inl si)), (h7, .inl (cC, 288, .inl lt)), (h8, .inl (cC, 3000, .inl pg)), (h9, .inl (cC, 6, .inl rd))] := hD
        refine lv_aload_n hx hb dd_M_letter_33 rfl (lv_at hl 0 rfl) ?_
        refine lv_dup hx hb dd_M_letter_34 rfl ?_
        refine va_get (D := (dC, dI)) (ci := 6) (v := .int bg) (C := cn_M) (T := tt_M) (N := 17) hx hb ht in_M hown hK hP 0 rfl rfl 0 (by decide) (ht _ tw_3_41) (fun _ h9 => h9) rfl dd_M_letter_35 ?_
        refine lv_iconst (v := 1) hx hb dd_M_letter_38 (by decide) ?_
        refine lv_iadd hx hb dd_M_letter_39 ?_
        refine va_put (D := (dC, dI)) (ci := 6) (v := .int (bg + 1)) (ty := .int) (C := cn_M) (T := tt_M) (N := 17) hx hb ht in_M ty_M tyok_M nm_M hown hK hP hD hS 0 rfl rfl 0 (by decide) (ht _ tw_3_41) (fun _ h9 => h9) rfl (by decide +kernel) rfl rfl (Nat.le_of_ble_eq_true rfl) dd_M_letter_40 (fun H_15 locs_16 hP hD hS => ?_)
        have hP : va_P (dC, dI) vwCl [(h0, .inr (6, [.int (bg + 1), .ref h1, .ref h2, .ref h3, .ref h4, .ref h5, .ref h6, .ref h7, .int ln, .ref h8, .int mt, .int en, .int sx, .int pl, .int ov, .int tk, .ref h9])), (h1, .inl (cC, 6, .inl (upd na bg.toNatClampNeg (vp_nar .char x1)))), (h2, .inl (cI, 2, .inl cu)), (h3, .inl (cI, 48, .inl pa)), (h4, .inl (cI, 48, .inl re)), (h5, .inl (cZ, 48, .inl cl)), (h6, .inl (cI, 48, .inl si)), (h7, .inl (cC, 288, .inl lt)), (h8, .inl (cC, 3000, .inl pg)), (h9, .inl (cC, 6, .inl rd))] H_15 := hP
        have hD : va_D A [(h0, .inr (6, [.int (bg + 1), .ref h1, .ref h2, .ref h3, .ref h4, .ref h5, .ref h6, .ref h7, .int ln, .ref h8, .int mt, .int en, .int sx, .int pl, .int ov, .int tk, .ref h9])), (h1, .inl (cC, 6, .inl (upd na bg.toNatClampNeg (vp_nar .char x1)))), (h2, .inl (cI, 2, .inl cu)), (h3, .inl (cI, 48, .inl pa)), (h4, .inl (cI, 48, .inl re)), (h5, .inl (cZ, 48, .inl cl)), (h6, .inl (cI, 48, .inl si)), (h7, .inl (cC, 288, .inl lt)), (h8, .inl (cC, 3000, .inl pg)), (h9, .inl (cC, 6, .inl rd))] := hD
        refine lv_iconst (v := 1) hx hb dd_M_letter_43 (by decide) ?_
        subst hQ
        obtain rfl := Option.some.inj hF
        exact W.zret (v := 1) hx hb hr rfl (fun t ht hW => ⟨⟨1, (), rfl, rfl, by rw [ht]; exact hP, va_K.moved hW.alike hK, hD⟩, hS.F ht⟩) hS.2.2 dd_M_letter_44
      · have hF := jv_t c_11 hF
        refine lv_iconst (v := 0) hx hb dd_M_letter_21 (by decide) ?_
        subst hQ
        obtain rfl := Option.some.inj hF
        exact W.zret (v := 0) hx hb hr rfl (fun t ht hW => ⟨⟨0, (), rfl, rfl, by rw [ht]; exact hP, va_K.moved hW.alike hK, hD⟩, hS.F ht⟩) hS.2.2 dd_M_letter_22
set_option maxHeartbeats 40000000 in
set_option maxRecDepth 100000 in
theorem c_M_innermost (l : Launch) (dC : Nat → ClassId) (dI : Nat → Nat → Nat) (cI cL cC cZ : ClassId) (h0 h1 h2 h3 h4 h5 h6 h7 h8 h9 : Nat) (sz : Nat) (bg : Int32) (ln : Int32) (mt : Int32) (en : Int32) (sx : Int32) (pl : Int32) (ov : Int32) (tk : Int32) (na : Nat → Int32) (cu : Nat → Int32) (pa : Nat → Int32) (re : Nat → Int32) (cl : Nat → Int32) (si : Nat → Int32) (lt : Nat → Int32) (pg : Nat → Int32) (rd : Nat → Int32) (x1 : Int32) (out : Int32) (hF : fn_M_innermost cu re cl x1 = some out) : Met l yy_M_innermost ws_M_innermost { frames := 0, cells := 0, slots := 0, locals := 0 } (mP_ (dC, dI) (tk_ cI cL cC cZ) [(h0, .inr (6, [.int bg, .ref h1, .ref h2, .ref h3, .ref h4, .ref h5, .ref h6, .ref h7, .int ln, .ref h8, .int mt, .int en, .int sx, .int pl, .int ov, .int tk, .ref h9])), (h1, .inl (cC, 6, .inl na)), (h2, .inl (cI, 2, .inl cu)), (h3, .inl (cI, 48, .inl pa)), (h4, .inl (cI, 48, .inl re)), (h5, .inl (cZ, 48, .inl cl)), (h6, .inl (cI, 48, .inl si)), (h7, .inl (cC, 288, .inl lt)), (h8, .inl (cC, 3000, .inl pg)), (h9, .inl (cC, 6, .inl rd))] sz [.ref h0, .int x1]) (vp_Si (fun r => r = out)) 0 0 (fun _ => False) := by
  refine Met.ofW (cc := cc_M_innermost) (maxL := 4) (ret := (some .int)) (by decide) rfl ?_
  intro p e s m args below meth c s₁ B hml hv
  obtain ⟨hargs, hsz, hP, hK, hD0⟩ := hv
  have hx := B.exec
  have hb := B.bytes
  have hr := B.returns
  have hts := atoms_spec (ws := ws_M_innermost) B.pre
  have ht : ∀ w ∈ TB_, w.before args s = true := fun w h => hts w (List.mem_cons_of_mem _ h)
  have hown : s.vm.findClass cn_M = some m.cls := findClass_of_methodNamed B.named
  have hlocks := B.notSynchronized
  subst hsz
  have hD := hD0.self (sz := s.heap.size)
  generalize hAe : va_A [(h0, .inr (6, [.int bg, .ref h1, .ref h2, .ref h3, .ref h4, .ref h5, .ref h6, .ref h7, .int ln, .ref h8, .int mt, .int en, .int sx, .int pl, .int ov, .int tk, .ref h9])), (h1, .inl (cC, 6, .inl na)), (h2, .inl (cI, 2, .inl cu)), (h3, .inl (cI, 48, .inl pa)), (h4, .inl (cI, 48, .inl re)), (h5, .inl (cZ, 48, .inl cl)), (h6, .inl (cI, 48, .inl si)), (h7, .inl (cC, 288, .inl lt)), (h8, .inl (cC, 3000, .inl pg)), (h9, .inl (cC, 6, .inl rd))] s.heap.size = A at hD
  have hA : ∀ q : Nat, s.heap.size ≤ q → A q := fun q h => by rw [← hAe]; exact Or.inr h
  have hS : va_S A s.heap s.heap [] := va_S.rf
  have hP : va_P (dC, dI) vwCl [(h0, .inr (6, [.int bg, .ref h1, .ref h2, .ref h3, .ref h4, .ref h5, .ref h6, .ref h7, .int ln, .ref h8, .int mt, .int en, .int sx, .int pl, .int ov, .int tk, .ref h9])), (h1, .inl (cC, 6, .inl na)), (h2, .inl (cI, 2, .inl cu)), (h3, .inl (cI, 48, .inl pa)), (h4, .inl (cI, 48, .inl re)), (h5, .inl (cZ, 48, .inl cl)), (h6, .inl (cI, 48, .inl si)), (h7, .inl (cC, 288, .inl lt)), (h8, .inl (cC, 3000, .inl pg)), (h9, .inl (cC, 6, .inl rd))] s.heap := hP
  have hl := lv_entry [.ref h0, .int x1] (n := 4) (Nat.le_of_ble_eq_true rfl)
  have he : entryFrame m args 4 = _ := (congrArg (fun a => entryFrame m a 4) hargs).trans (lg_entry_eq m [.ref h0, .int x1] 4)
  rw [he]
  generalize (lg_sl [.ref h0, .int x1] ++ List.replicate (4 - (lg_sl [.ref h0, .int x1]).length) Slot.unset).toArray = ls at hl ⊢
  have hl : lv_has ls 4 [(0, .ref h0), (1, .int x1)] := hl
  generalize hQ : MQ below _ args s _ _ _ = Q
  have lp4 : ∀ (n4 : Nat), ∀ (x1 : Int32) (x2 : Int32) (x3 : Int32), fl_M_innermost_4 cu re cl  n4 (x1, x2, x3) = some out → ∀ ls : Array Slot, lv_has ls 4 [(0, .ref h0), (1, .int x1), (2, .int x2), (3, .int x3)] → W p l e (headSpec ws_M_innermost { frames := 0, cells := 0, slots := 0, locals := 0 }).room s m args below meth c s.heap [] 0 0 Q (F0 m 4 ls []) := by
    intro n4
    induction n4 with
    | zero =>
      intro x1 x2 x3 hF
      exact (jv_no hF).elim
    | succ n4 ih4 =>
      intro x1 x2 x3 hF ls hl
      have hF : fb_M_innermost_4 cu re cl  (fl_M_innermost_4 cu re cl  n4) x1 x2 x3 = some out := hF
      unfold fb_M_innermost_4 at hF
      refine lv_iload_n hx hb dd_M_innermost_4 rfl (lv_at hl 3 rfl) ?_
      refine lv_aload_n hx hb dd_M_innermost_5 rfl (lv_at hl 0 rfl) ?_
      refine va_get (D := (dC, dI)) (ci := 6) (v := .ref h2) (C := cn_M) (T := tt_M) (N := 17) hx hb ht in_M hown hK hP 0 rfl rfl 2 (by decide) (ht _ tw_3_43) (fun _ h9 => h9) rfl dd_M_innermost_6 ?_
      refine lv_iload_n hx hb dd_M_innermost_9 rfl (lv_at hl 1 rfl) ?_
      obtain ⟨g_7, hF⟩ := jv_gi hF
      refine va_iald hx hb hK hP 2 0 rfl rfl (jv_in g_7) dd_M_innermost_10 ?_
      refine lv_icmp_ge (tgt := 55) hx hb dd_M_innermost_11 (by decide) (fun c_8 => ?_) (fun c_8 => ?_)
      · have hF := jv_t c_8 hF
        refine lv_iload_n hx hb dd_M_innermost_55 rfl (lv_at hl 2 rfl) ?_
        subst hQ
        exact W.iret (v := x2) hx hb hr (fun t ht hW => ⟨x2, rfl, (Option.some.inj hF), ht⟩) (fun _ h => by cases h) dd_M_innermost_56
      · have hF := jv_f c_8 hF
        refine lv_aload_n hx hb dd_M_innermost_14 rfl (lv_at hl 0 rfl) ?_
        refine va_get (D := (dC, dI)) (ci := 6) (v := .ref h4) (C := cn_M) (T := tt_M) (N := 17) hx hb ht in_M hown hK hP 0 rfl rfl 4 (by decide) (ht _ tw_3_45) (fun _ h9 => h9) rfl dd_M_innermost_15 ?_
        refine lv_bipush (v := 24) hx hb dd_M_innermost_18 (by decide) ?_
        refine lv_iload_n hx hb dd_M_innermost_20 rfl (lv_at hl 1 rfl) ?_
        refine lv_imul hx hb dd_M_innermost_21 ?_
        refine lv_iload_n hx hb dd_M_innermost_22 rfl (lv_at hl 3 rfl) ?_
        refine lv_iadd hx hb dd_M_innermost_23 ?_
        obtain ⟨g_9, hF⟩ := jv_gi hF
        refine va_iald hx hb hK hP 4 0 rfl rfl (jv_in g_9) dd_M_innermost_24 ?_
        refine lv_iconst (v := 4) hx hb dd_M_innermost_25 (by decide) ?_
        refine lv_icmp_ne (tgt := 47) hx hb dd_M_innermost_26 (by decide) (fun c_10 => ?_) (fun c_10 => ?_)
        · have hF := jv_f c_10 hF
          refine lv_iload_n hx hb dd_M_innermost_47 rfl (lv_at hl 2 rfl) ?_
          refine lv_istore_n (lv' := [(2, .int x2), (0, .ref h0), (1, .int x1), (3, .int x3)]) hx hb dd_M_innermost_48 rfl hl (by decide) rfl (fun ls hl => ?_)
          refine lv_iinc (v := x3 + 1) (lv' := [(3, .int (x3 + 1)), (2, .int x2), (0, .ref h0), (1, .int x1)]) hx hb dd_M_innermost_49 hl (k := 3) rfl rfl (by decide) rfl (fun ls hl => ?_)
          refine lv_goto (tgt := 4) hx hb dd_M_innermost_52 (by decide) ?_
          exact ih4 x1 x2 (x3 + 1) hF ls (lv_sub hl [2, 3, 1, 0] rfl)
        · have hF := jv_t c_10 hF
          refine lv_aload_n hx hb dd_M_innermost_29 rfl (lv_at hl 0 rfl) ?_
          refine va_get (D := (dC, dI)) (ci := 6) (v := .ref h5) (C := cn_M) (T := tt_M) (N := 17) hx hb ht in_M hown hK hP 0 rfl rfl 5 (by decide) (ht _ tw_3_46) (fun _ h9 => h9) rfl dd_M_innermost_30 ?_
          refine lv_bipush (v := 24) hx hb dd_M_innermost_33 (by decide) ?_
          refine lv_iload_n hx hb dd_M_innermost_35 rfl (lv_at hl 1 rfl) ?_
          refine lv_imul hx hb dd_M_innermost_36 ?_
          refine lv_iload_n hx hb dd_M_innermost_37 rfl (lv_at hl 3 rfl) ?_
          refine lv_iadd hx hb dd_M_innermost_38 ?_
          obtain ⟨g_11, hF⟩ := jv_gi hF
          refine va_zald hx hb hK hP 5 3 rfl rfl (jv_in g_11) dd_M_innermost_39 ?_
          refine lv_if_ne (tgt := 47) hx hb dd_M_innermost_40 (by decide) (fun c_12 => ?_) (fun c_12 => ?_)
          · have hF := jv_f c_12 hF
            refine lv_iload_n hx hb dd_M_innermost_47 rfl (lv_at hl 2 rfl) ?_
            refine lv_istore_n (lv' := [(2, .int x2), (0, .ref h0), (1, .int x1), (3, .int x3)]) hx hb dd_M_innermost_48 rfl hl (by decide) rfl (fun ls hl => ?_)
            refine lv_iinc (v := x3 + 1) (lv' := [(3, .int (x3 + 1)), (2, .int x2), (0, .ref h0), (1, .int x1)]) hx hb dd_M_innermost_49 hl (k := 3) rfl rfl (by decide) rfl (fun ls hl => ?_)
            refine lv_goto (tgt := 4) hx hb dd_M_innermost_52 (by decide) ?_
            exact ih4 x1 x2 (x3 + 1) hF ls (lv_sub hl [2, 3, 1, 0] rfl)
          · have hF := jv_t c_12 hF
            refine lv_iload_n hx hb dd_M_innermost_43 rfl (lv_at hl 3 rfl) ?_
            refine lv_goto (tgt := 48) hx hb dd_M_innermost_44 (by decide) ?_
            refine lv_istore_n (lv' := [(2, .int x3), (0, .ref h0), (1, .int x1), (3, .int x3)]) hx hb dd_M_innermost_48 rfl hl (by decide) rfl (fun ls hl => ?_)
            refine lv_iinc (v := x3 + 1) (lv' := [(3, .int (x3 + 1)), (2, .int x3), (0, .ref h0), (1, .int x1)]) hx hb dd_M_innermost_49 hl (k := 3) rfl rfl (by decide) rfl (fun ls hl => ?_)
            refine lv_goto (tgt := 4) hx hb dd_M_innermost_52 (by decide) ?_
            exact ih4 x1 x3 (x3 + 1) hF ls (lv_sub hl [2, 3, 1, 0] rfl)
  unfold fn_M_innermost at hF
  refine lv_iconst (v := (-1)) hx hb dd_M_innermost_0 (by decide) ?_
  refine lv_istore_n (lv' := [(2, .int (-1)), (0, .ref h0), (1, .int x1)]) hx hb dd_M_innermost_1 rfl hl (by decide) rfl (fun ls hl => ?_)
  refine lv_iconst (v := 0) hx hb dd_M_innermost_2 (by decide) ?_
  refine lv_istore_n (lv' := [(3, .int 0), (2, .int (-1)), (0, .ref h0), (1, .int x1)]) hx hb dd_M_innermost_3 rfl hl (by decide) rfl (fun ls hl => ?_)
  exact lp4 4000 x1 (-1) 0 hF ls (lv_sub hl [2, 3, 1, 0] rfl)
set_option maxHeartbeats 40000000 in
set_option maxRecDepth 100000 in
theorem c_M_depthOf (l : Launch) (dC : Nat → ClassId) (dI : Nat → Nat → Nat) (cI cL cC cZ : ClassId) (h0 h1 h2 h3 h4 h5 h6 h7 h8 h9 : Nat) (sz : Nat) (bg : Int32) (ln : Int32) (mt : Int32) (en : Int32) (sx : Int32) (pl : Int32) (ov : Int32) (tk : Int32) (na : Nat → Int32) (cu : Nat → Int32) (pa : Nat → Int32) (re : Nat → Int32) (cl : Nat → Int32) (si : Nat → Int32) (lt : Nat → Int32) (pg : Nat → Int32) (rd : Nat → Int32) (x1 : Int32) (x2 : Int32) (out : Int32) (hF : fn_M_depthOf pa x1 x2 = some out) : Met l yy_M_depthOf ws_M_depthOf { frames := 0, cells := 0, slots := 0, locals := 0 } (mP_ (dC, dI) (tk_ cI cL cC cZ) [(h0, .inr (6, [.int bg, .ref h1, .ref h2, .ref h3, .ref h4, .ref h5, .ref h6, .ref h7, .int ln, .ref h8, .int mt, .int en, .int sx, .int pl, .int ov, .int tk, .ref h9])), (h1, .inl (cC, 6, .inl na)), (h2, .inl (cI, 2, .inl cu)), (h3, .inl (cI, 48, .inl pa)), (h4, .inl (cI, 48, .inl re)), (h5, .inl (cZ, 48, .inl cl)), (h6, .inl (cI, 48, .inl si)), (h7, .inl (cC, 288, .inl lt)), (h8, .inl (cC, 3000, .inl pg)), (h9, .inl (cC, 6, .inl rd))] sz [.ref h0, .int x1, .int x2]) (vp_Si (fun r => r = out)) 0 0 (fun _ => False) := by
  refine Met.ofW (cc := cc_M_depthOf) (maxL := 5) (ret := (some .int)) (by decide) rfl ?_
  intro p e s m args below meth c s₁ B hml hv
  obtain ⟨hargs, hsz, hP, hK, hD0⟩ := hv
  have hx := B.exec
  have hb := B.bytes
  have hr := B.returns
  have hts := atoms_spec (ws := ws_M_depthOf) B.pre
  have ht : ∀ w ∈ TB_, w.before args s = true := fun w h => hts w (List.mem_cons_of_mem _ h)
  have hown : s.vm.findClass cn_M = some m.cls := findClass_of_methodNamed B.named
  have hlocks := B.notSynchronized
  subst hsz
  have hD := hD0.self (sz := s.heap.size)
  generalize hAe : va_A [(h0, .inr (6, [.int bg, .ref h1, .ref h2, .ref h3, .ref h4, .ref h5, .ref h6, .ref h7, .int ln, .ref h8, .int mt, .int en, .int sx, .int pl, .int ov, .int tk, .ref h9])), (h1, .inl (cC, 6, .inl na)), (h2, .inl (cI, 2, .inl cu)), (h3, .inl (cI, 48, .inl pa)), (h4, .inl (cI, 48, .inl re)), (h5, .inl (cZ, 48, .inl cl)), (h6, .inl (cI, 48, .inl si)), (h7, .inl (cC, 288, .inl lt)), (h8, .inl (cC, 3000, .inl pg)), (h9, .inl (cC, 6, .inl rd))] s.heap.size = A at hD
  have hA : ∀ q : Nat, s.heap.size ≤ q → A q := fun q h => by rw [← hAe]; exact Or.inr h
  have hS : va_S A s.heap s.heap [] := va_S.rf
  have hP : va_P (dC, dI) vwCl [(h0, .inr (6, [.int bg, .ref h1, .ref h2, .ref h3, .ref h4, .ref h5, .ref h6, .ref h7, .int ln, .ref h8, .int mt, .int en, .int sx, .int pl, .int ov, .int tk, .ref h9])), (h1, .inl (cC, 6, .inl na)), (h2, .inl (cI, 2, .inl cu)), (h3, .inl (cI, 48, .inl pa)), (h4, .inl (cI, 48, .inl re)), (h5, .inl (cZ, 48, .inl cl)), (h6, .inl (cI, 48, .inl si)), (h7, .inl (cC, 288, .inl lt)), (h8, .inl (cC, 3000, .inl pg)), (h9, .inl (cC, 6, .inl rd))] s.heap := hP
  have hl := lv_entry [.ref h0, .int x1, .int x2] (n := 5) (Nat.le_of_ble_eq_true rfl)
  have he : entryFrame m args 5 = _ := (congrArg (fun a => entryFrame m a 5) hargs).trans (lg_entry_eq m [.ref h0, .int x1, .int x2] 5)
  rw [he]
  generalize (lg_sl [.ref h0, .int x1, .int x2] ++ List.replicate (5 - (lg_sl [.ref h0, .int x1, .int x2]).length) Slot.unset).toArray = ls at hl ⊢
  have hl : lv_has ls 5 [(0, .ref h0), (1, .int x1), (2, .int x2)] := hl
  generalize hQ : MQ below _ args s _ _ _ = Q
  have lp15 : ∀ (n15 : Nat), ∀ (x1 : Int32) (x3 : Int32) (x4 : Int32), fl_M_depthOf_15 pa  n15 (x1, x3, x4) = some out → ∀ ls : Array Slot, lv_has ls 5 [(0, .ref h0), (1, .int x1), (3, .int x3), (4, .int x4)] → W p l e (headSpec ws_M_depthOf { frames := 0, cells := 0, slots := 0, locals := 0 }).room s m args below meth c s.heap [] 0 0 Q (F0 m 15 ls []) := by
    intro n15
    induction n15 with
    | zero =>
      intro x1 x3 x4 hF
      exact (jv_no hF).elim
    | succ n15 ih15 =>
      intro x1 x3 x4 hF ls hl
      have hF : fb_M_depthOf_15 pa  (fl_M_depthOf_15 pa  n15) x1 x3 x4 = some out := hF
      unfold fb_M_depthOf_15 at hF
      refine lv_iload hx hb dd_M_depthOf_15 (lv_at hl 3 rfl) ?_
      refine lv_if_lt (tgt := 40) hx hb dd_M_depthOf_17 (by decide) (fun c_4 => ?_) (fun c_4 => ?_)
      · have hF := jv_t c_4 hF
        refine lv_iload_n hx hb dd_M_depthOf_40 rfl (lv_at hl 2 rfl) ?_
        subst hQ
        exact W.iret (v := x3) hx hb hr (fun t ht hW => ⟨x3, rfl, (Option.some.inj hF), ht⟩) (fun _ h => by cases h) dd_M_depthOf_41
      · have hF := jv_f c_4 hF
        refine lv_iinc (v := x3 + 1) (lv' := [(3, .int (x3 + 1)), (0, .ref h0), (1, .int x1), (4, .int x4)]) hx hb dd_M_depthOf_20 hl (k := 2) rfl rfl (by decide) rfl (fun ls hl => ?_)
        refine lv_aload_n hx hb dd_M_depthOf_23 rfl (lv_at hl 1 rfl) ?_
        refine va_get (D := (dC, dI)) (ci := 6) (v := .ref h3) (C := cn_M) (T := tt_M) (N := 17) hx hb ht in_M hown hK hP 0 rfl rfl 3 (by decide) (ht _ tw_3_44) (fun _ h9 => h9) rfl dd_M_depthOf_24 ?_
        refine lv_bipush (v := 24) hx hb dd_M_depthOf_27 (by decide) ?_
        refine lv_iload_n hx hb dd_M_depthOf_29 rfl (lv_at hl 2 rfl) ?_
        refine lv_imul hx hb dd_M_depthOf_30 ?_
        refine lv_iload hx hb dd_M_depthOf_31 (lv_at hl 3 rfl) ?_
        refine lv_iadd hx hb dd_M_depthOf_33 ?_
        obtain ⟨g_5, hF⟩ := jv_gi hF
        refine va_iald hx hb hK hP 3 0 rfl rfl (jv_in g_5) dd_M_depthOf_34 ?_
        refine lv_istore (lv' := [(4, .int (pa ((24 * x1) + x4).toNatClampNeg)), (3, .int (x3 + 1)), (0, .ref h0), (1, .int x1)]) hx hb dd_M_depthOf_35 hl (by decide) rfl (fun ls hl => ?_)
        refine lv_goto (tgt := 15) hx hb dd_M_depthOf_37 (by decide) ?_
        exact ih15 x1 (x3 + 1) (pa ((24 * x1) + x4).toNatClampNeg) hF ls (lv_sub hl [2, 3, 1, 0] rfl)
  unfold fn_M_depthOf at hF
  refine lv_iconst (v := 0) hx hb dd_M_depthOf_0 (by decide) ?_
  refine lv_istore_n (lv' := [(3, .int 0), (0, .ref h0), (1, .int x1), (2, .int x2)]) hx hb dd_M_depthOf_1 rfl hl (by decide) rfl (fun ls hl => ?_)
  refine lv_aload_n hx hb dd_M_depthOf_2 rfl (lv_at hl 1 rfl) ?_
  refine va_get (D := (dC, dI)) (ci := 6) (v := .ref h3) (C := cn_M) (T := tt_M) (N := 17) hx hb ht in_M hown hK hP 0 rfl rfl 3 (by decide) (ht _ tw_3_44) (fun _ h9 => h9) rfl dd_M_depthOf_3 ?_
  refine lv_bipush (v := 24) hx hb dd_M_depthOf_6 (by decide) ?_
  refine lv_iload_n hx hb dd_M_depthOf_8 rfl (lv_at hl 2 rfl) ?_
  refine lv_imul hx hb dd_M_depthOf_9 ?_
  refine lv_iload_n hx hb dd_M_depthOf_10 rfl (lv_at hl 3 rfl) ?_
  refine lv_iadd hx hb dd_M_depthOf_11 ?_
  obtain ⟨g_6, hF⟩ := jv_gi hF
  refine va_iald hx hb hK hP 3 0 rfl rfl (jv_in g_6) dd_M_depthOf_12 ?_
  refine lv_istore (lv' := [(4, .int (pa ((24 * x1) + x2).toNatClampNeg)), (3, .int 0), (0, .ref h0), (1, .int x1), (2, .int x2)]) hx hb dd_M_depthOf_13 hl (by decide) rfl (fun ls hl => ?_)
  exact lp15 4000 x1 0 (pa ((24 * x1) + x2).toNatClampNeg) hF ls (lv_sub hl [2, 3, 1, 0] rfl)
set_option maxHeartbeats 40000000 in
set_option maxRecDepth 100000 in
theorem c_M_grow (l : Launch) (dC : Nat → ClassId) (dI : Nat → Nat → Nat) (cI cL cC cZ : ClassId) (h0 h1 h2 h3 h4 h5 h6 h7 h8 h9 : Nat) (sz : Nat) (bg : Int32) (ln : Int32) (mt : Int32) (en : Int32) (sx : Int32) (pl : Int32) (ov : Int32) (tk : Int32) (na : Nat → Int32) (cu : Nat → Int32) (pa : Nat → Int32) (re : Nat → Int32) (cl : Nat → Int32) (si : Nat → Int32) (lt : Nat → Int32) (pg : Nat → Int32) (rd : Nat → Int32) (x1 : Int32) (x2 : Int32) (out : Int32 × (Nat → Int32) × (Nat → Int32) × (Nat → Int32) × (Nat → Int32) × (Nat → Int32)) (hF : fn_M_grow cu pa re cl si x1 x2 = some out) : Met l yy_M_grow ws_M_grow { frames := 1, cells := 0, slots := 0, locals := 23 } (mP_ (dC, dI) (tk_ cI cL cC cZ) [(h0, .inr (6, [.int bg, .ref h1, .ref h2, .ref h3, .ref h4, .ref h5, .ref h6, .ref h7, .int ln, .ref h8, .int mt, .int en, .int sx, .int pl, .int ov, .int tk, .ref h9])), (h1, .inl (cC, 6, .inl na)), (h2, .inl (cI, 2, .inl cu)), (h3, .inl (cI, 48, .inl pa)), (h4, .inl (cI, 48, .inl re)), (h5, .inl (cZ, 48, .inl cl)), (h6, .inl (cI, 48, .inl si)), (h7, .inl (cC, 288, .inl lt)), (h8, .inl (cC, 3000, .inl pg)), (h9, .inl (cC, 6, .inl rd))] sz [.ref h0, .int x1, .int x2]) (va_Qi (fun r (_ : Unit) => r = out.1) (mB_ (dC, dI) (tk_ cI cL cC cZ) [(h0, .inr (6, [.int bg, .ref h1, .ref h2, .ref h3, .ref h4, .ref h5, .ref h6, .ref h7, .int ln, .ref h8, .int mt, .int en, .int sx, .int pl, .int ov, .int tk, .ref h9])), (h1, .inl (cC, 6, .inl na)), (h2, .inl (cI, 2, .inl out.2.1)), (h3, .inl (cI, 48, .inl out.2.2.1)), (h4, .inl (cI, 48, .inl out.2.2.2.1)), (h5, .inl (cZ, 48, .inl out.2.2.2.2.1)), (h6, .inl (cI, 48, .inl out.2.2.2.2.2)), (h7, .inl (cC, 288, .inl lt)), (h8, .inl (cC, 3000, .inl pg)), (h9, .inl (cC, 6, .inl rd))] (va_A [(h0, .inr (6, [.int bg, .ref h1, .ref h2, .ref h3, .ref h4, .ref h5, .ref h6, .ref h7, .int ln, .ref h8, .int mt, .int en, .int sx, .int pl, .int ov, .int tk, .ref h9])), (h1, .inl (cC, 6, .inl na)), (h2, .inl (cI, 2, .inl cu)), (h3, .inl (cI, 48, .inl pa)), (h4, .inl (cI, 48, .inl re)), (h5, .inl (cZ, 48, .inl cl)), (h6, .inl (cI, 48, .inl si)), (h7, .inl (cC, 288, .inl lt)), (h8, .inl (cC, 3000, .inl pg)), (h9, .inl (cC, 6, .inl rd))] sz)) (va_A [(h0, .inr (6, [.int bg, .ref h1, .ref h2, .ref h3, .ref h4, .ref h5, .ref h6, .ref h7, .int ln, .ref h8, .int mt, .int en, .int sx, .int pl, .int ov, .int tk, .ref h9])), (h1, .inl (cC, 6, .inl na)), (h2, .inl (cI, 2, .inl cu)), (h3, .inl (cI, 48, .inl pa)), (h4, .inl (cI, 48, .inl re)), (h5, .inl (cZ, 48, .inl cl)), (h6, .inl (cI, 48, .inl si)), (h7, .inl (cC, 288, .inl lt)), (h8, .inl (cC, 3000, .inl pg)), (h9, .inl (cC, 6, .inl rd))] sz)) 0 0 (va_A [(h0, .inr (6, [.int bg, .ref h1, .ref h2, .ref h3, .ref h4, .ref h5, .ref h6, .ref h7, .int ln, .ref h8, .int mt, .int en, .int sx, .int pl, .int ov, .int tk, .ref h9])), (h1, .inl (cC, 6, .inl na)), (h2, .inl (cI, 2, .inl cu)), (h3, .inl (cI, 48, .inl pa)), (h4, .inl (cI, 48, .inl re)), (h5, .inl (cZ, 48, .inl cl)), (h6, .inl (cI, 48, .inl si)), (h7, .inl (cC, 288, .inl lt)), (h8, .inl (cC, 3000, .inl pg)), (h9, .inl (cC, 6, .inl rd))] sz) := by
  refine Met.ofW (cc := cc_M_grow) (maxL := 5) (ret := (some .int)) (by decide) rfl ?_
  intro p e s m args below meth c s₁ B hml hv
  obtain ⟨hargs, hsz, hP, hK, hD0⟩ := hv
  have hx := B.exec
  have hb := B.bytes
  have hr := B.returns
  have hts := atoms_spec (ws := ws_M_grow) B.pre
  have ht : ∀ w ∈ TB_, w.before args s = true := fun w h => hts w (List.mem_cons_of_mem _ h)
  have hown : s.vm.findClass cn_M = some m.cls := findClass_of_methodNamed B.named
  have hlocks := B.notSynchronized
  subst hsz
  have hD := hD0.self (sz := s.heap.size)
  generalize hAe : va_A [(h0, .inr (6, [.int bg, .ref h1, .ref h2, .ref h3, .ref h4, .ref h5, .ref h6, .ref h7, .int ln, .ref h8, .int mt, .int en, .int sx, .int pl, .int ov, .int tk, .ref h9])), (h1, .inl (cC, 6, .inl na)), (h2, .inl (cI, 2, .inl cu)), (h3, .inl (cI, 48, .inl pa)), (h4, .inl (cI, 48, .inl re)), (h5, .inl (cZ, 48, .inl cl)), (h6, .inl (cI, 48, .inl si)), (h7, .inl (cC, 288, .inl lt)), (h8, .inl (cC, 3000, .inl pg)), (h9, .inl (cC, 6, .inl rd))] s.heap.size = A at hD ⊢
  have hA : ∀ q : Nat, s.heap.size ≤ q → A q := fun q h => by rw [← hAe]; exact Or.inr h
  have hS : va_S A s.heap s.heap [] := va_S.rf
  have hP : va_P (dC, dI) vwCl [(h0, .inr (6, [.int bg, .ref h1, .ref h2, .ref h3, .ref h4, .ref h5, .ref h6, .ref h7, .int ln, .ref h8, .int mt, .int en, .int sx, .int pl, .int ov, .int tk, .ref h9])), (h1, .inl (cC, 6, .inl na)), (h2, .inl (cI, 2, .inl cu)), (h3, .inl (cI, 48, .inl pa)), (h4, .inl (cI, 48, .inl re)), (h5, .inl (cZ, 48, .inl cl)), (h6, .inl (cI, 48, .inl si)), (h7, .inl (cC, 288, .inl lt)), (h8, .inl (cC, 3000, .inl pg)), (h9, .inl (cC, 6, .inl rd))] s.heap := hP
  have hl := lv_entry [.ref h0, .int x1, .int x2] (n := 5) (Nat.le_of_ble_eq_true rfl)
  have he : entryFrame m args 5 = _ := (congrArg (fun a => entryFrame m a 5) hargs).trans (lg_entry_eq m [.ref h0, .int x1, .int x2] 5)
  rw [he]
  generalize (lg_sl [.ref h0, .int x1, .int x2] ++ List.replicate (5 - (lg_sl [.ref h0, .int x1, .int x2]).length) Slot.unset).toArray = ls at hl ⊢
  have hl : lv_has ls 5 [(0, .ref h0), (1, .int x1), (2, .int x2)] := hl
  generalize hQ : MQ below _ args s _ _ _ = Q
  unfold fn_M_grow at hF
  refine lv_aload_n hx hb dd_M_grow_0 rfl (lv_at hl 0 rfl) ?_
  refine va_get (D := (dC, dI)) (ci := 6) (v := .ref h2) (C := cn_M) (T := tt_M) (N := 17) hx hb ht in_M hown hK hP 0 rfl rfl 2 (by decide) (ht _ tw_3_43) (fun _ h9 => h9) rfl dd_M_grow_1 ?_
  refine lv_iload_n hx hb dd_M_grow_4 rfl (lv_at hl 1 rfl) ?_
  obtain ⟨g_18, hF⟩ := jv_gi hF
  refine va_iald hx hb hK hP 2 0 rfl rfl (jv_in g_18) dd_M_grow_5 ?_
  refine lv_istore_n (lv' := [(3, .int (cu x1.toNatClampNeg)), (0, .ref h0), (1, .int x1), (2, .int x2)]) hx hb dd_M_grow_6 rfl hl (by decide) rfl (fun ls hl => ?_)
  refine lv_aload_n hx hb dd_M_grow_7 rfl (lv_at hl 1 rfl) ?_
  refine lv_iload_n hx hb dd_M_grow_8 rfl (lv_at hl 2 rfl) ?_
  obtain ⟨o_9, ho_9, hF⟩ := jv_bi hF
  refine jv_ci (va_runV (C := cn_M) (As := [.int x1]) (rest := []) ⟨hx, hb, hml, hown, ht⟩ (c_M_innermost l dC dI cI cL cC cZ h0 h1 h2 h3 h4 h5 h6 h7 h8 h9 s.heap.size bg ln mt en sx pl ov tk na cu pa re cl si lt pg rd x1 _ ho_9) (cwV 1 ht (gi_V tw_3_102 tw_3_104 tw_p_14 tw_1_4 tw_3_105) rfl rfl rfl (by decide +kernel) ⟨Nat.le_of_ble_eq_true rfl, Nat.le_of_ble_eq_true rfl⟩) (jv_pv hK hP hD [0, 1, 2, 3, 4, 5, 6, 7, 8, 9] rfl (by decide) rfl (va_recv hK hP (ci := 6) (q0 := 0) rfl rfl)) rfl rfl hl.1 rfl (lv_room (Nat.le_of_ble_eq_true rfl)) dd_M_grow_9 ⟨Nat.le_of_ble_eq_true rfl, Nat.le_of_ble_eq_true rfl⟩) ?_
  refine lv_istore (lv' := [(4, .int o_9), (3, .int (cu x1.toNatClampNeg)), (0, .ref h0), (1, .int x1), (2, .int x2)]) hx hb dd_M_grow_12 hl (by decide) rfl (fun ls hl => ?_)
  refine lv_aload_n hx hb dd_M_grow_14 rfl (lv_at hl 2 rfl) ?_
  refine va_get (D := (dC, dI)) (ci := 6) (v := .ref h3) (C := cn_M) (T := tt_M) (N := 17) hx hb ht in_M hown hK hP 0 rfl rfl 3 (by decide) (ht _ tw_3_44) (fun _ h9 => h9) rfl dd_M_grow_15 ?_
  refine lv_bipush (v := 24) hx hb dd_M_grow_18 (by decide) ?_
  refine lv_iload_n hx hb dd_M_grow_20 rfl (lv_at hl 3 rfl) ?_
  refine lv_imul hx hb dd_M_grow_21 ?_
  refine lv_iload_n hx hb dd_M_grow_22 rfl (lv_at hl 1 rfl) ?_
  refine lv_iadd hx hb dd_M_grow_23 ?_
  refine lv_iload hx hb dd_M_grow_24 (lv_at hl 0 rfl) ?_
  obtain ⟨g_19, hF⟩ := jv_gi hF
  refine va_iast hx hb hK hP hD hS 3 0 rfl rfl (jv_in g_19) dd_M_grow_26 (fun H_20 locs_21 hP hD hS => ?_)
  have hP : va_P (dC, dI) vwCl [(h0, .inr (6, [.int bg, .ref h1, .ref h2, .ref h3, .ref h4, .ref h5, .ref h6, .ref h7, .int ln, .ref h8, .int mt, .int en, .int sx, .int pl, .int ov, .int tk, .ref h9])), (h1, .inl (cC, 6, .inl na)), (h2, .inl (cI, 2, .inl cu)), (h3, .inl (cI, 48, .inl (upd pa ((24 * x1) + (cu x1.toNatClampNeg)).toNatClampNeg o_9))), (h4, .inl (cI, 48, .inl re)), (h5, .inl (cZ, 48, .inl cl)), (h6, .inl (cI, 48, .inl si)), (h7, .inl (cC, 288, .inl lt)), (h8, .inl (cC, 3000, .inl pg)), (h9, .inl (cC, 6, .inl rd))] H_20 := hP
  have hD : va_D A [(h0, .inr (6, [.int bg, .ref h1, .ref h2, .ref h3, .ref h4, .ref h5, .ref h6, .ref h7, .int ln, .ref h8, .int mt, .int en, .int sx, .int pl, .int ov, .int tk, .ref h9])), (h1, .inl (cC, 6, .inl na)), (h2, .inl (cI, 2, .inl cu)), (h3, .inl (cI, 48, .inl (upd pa ((24 * x1) + (cu x1.toNatClampNeg)).toNatClampNeg o_9))), (h4, .inl (cI, 48, .inl re)), (h5, .inl (cZ, 48, .inl cl)), (h6, .inl (cI, 48, .inl si)), (h7, .inl (cC, 288, .inl lt)), (h8, .inl (cC, 3000, .inl pg)), (h9, .inl (cC, 6, .inl rd))] := hD
  refine lv_aload_n hx hb dd_M_grow_27 rfl (lv_at hl 2 rfl) ?_
  refine va_get (D := (dC, dI)) (ci := 6) (v := .ref h4) (C := cn_M) (T := tt_M) (N := 17) hx hb ht in_M hown hK hP 0 rfl rfl 4 (by decide) (ht _ tw_3_45) (fun _ h9 => h9) rfl dd_M_grow_28 ?_
  refine lv_bipush (v := 24) hx hb dd_M_grow_31 (by decide) ?_
  refine lv_iload_n hx hb dd_M_grow_33 rfl (lv_at hl 3 rfl) ?_
  refine lv_imul hx hb dd_M_grow_34 ?_
  refine lv_iload_n hx hb dd_M_grow_35 rfl (lv_at hl 1 rfl) ?_
  refine lv_iadd hx hb dd_M_grow_36 ?_
  refine lv_iload_n hx hb dd_M_grow_37 rfl (lv_at hl 4 rfl) ?_
  obtain ⟨g_22, hF⟩ := jv_gi hF
  refine va_iast hx hb hK hP hD hS 4 0 rfl rfl (jv_in g_22) dd_M_grow_38 (fun H_23 locs_24 hP hD hS => ?_)
  have hP : va_P (dC, dI) vwCl [(h0, .inr (6, [.int bg, .ref h1, .ref h2, .ref h3, .ref h4, .ref h5, .ref h6, .ref h7, .int ln, .ref h8, .int mt, .int en, .int sx, .int pl, .int ov, .int tk, .ref h9])), (h1, .inl (cC, 6, .inl na)), (h2, .inl (cI, 2, .inl cu)), (h3, .inl (cI, 48, .inl (upd pa ((24 * x1) + (cu x1.toNatClampNeg)).toNatClampNeg o_9))), (h4, .inl (cI, 48, .inl (upd re ((24 * x1) + (cu x1.toNatClampNeg)).toNatClampNeg x2))), (h5, .inl (cZ, 48, .inl cl)), (h6, .inl (cI, 48, .inl si)), (h7, .inl (cC, 288, .inl lt)), (h8, .inl (cC, 3000, .inl pg)), (h9, .inl (cC, 6, .inl rd))] H_23 := hP
  have hD : va_D A [(h0, .inr (6, [.int bg, .ref h1, .ref h2, .ref h3, .ref h4, .ref h5, .ref h6, .ref h7, .int ln, .ref h8, .int mt, .int en, .int sx, .int pl, .int ov, .int tk, .ref h9])), (h1, .inl (cC, 6, .inl na)), (h2, .inl (cI, 2, .inl cu)), (h3, .inl (cI, 48, .inl (upd pa ((24 * x1) + (cu x1.toNatClampNeg)).toNatClampNeg o_9))), (h4, .inl (cI, 48, .inl (upd re ((24 * x1) + (cu x1.toNatClampNeg)).toNatClampNeg x2))), (h5, .inl (cZ, 48, .inl cl)), (h6, .inl (cI, 48, .inl si)), (h7, .inl (cC, 288, .inl lt)), (h8, .inl (cC, 3000, .inl pg)), (h9, .inl (cC, 6, .inl rd))] := hD
  refine lv_aload_n hx hb dd_M_grow_39 rfl (lv_at hl 2 rfl) ?_
  refine va_get (D := (dC, dI)) (ci := 6) (v := .ref h5) (C := cn_M) (T := tt_M) (N := 17) hx hb ht in_M hown hK hP 0 rfl rfl 5 (by decide) (ht _ tw_3_46) (fun _ h9 => h9) rfl dd_M_grow_40 ?_
  refine lv_bipush (v := 24) hx hb dd_M_grow_43 (by decide) ?_
  refine lv_iload_n hx hb dd_M_grow_45 rfl (lv_at hl 3 rfl) ?_
  refine lv_imul hx hb dd_M_grow_46 ?_
  refine lv_iload_n hx hb dd_M_grow_47 rfl (lv_at hl 1 rfl) ?_
  refine lv_iadd hx hb dd_M_grow_48 ?_
  refine lv_iconst (v := 0) hx hb dd_M_grow_49 (by decide) ?_
  obtain ⟨g_25, hF⟩ := jv_gi hF
  refine va_zast hx hb hK hP hD hS 5 3 rfl rfl (jv_in g_25) dd_M_grow_50 (fun H_26 locs_27 hP hD hS => ?_)
  have hP : va_P (dC, dI) vwCl [(h0, .inr (6, [.int bg, .ref h1, .ref h2, .ref h3, .ref h4, .ref h5, .ref h6, .ref h7, .int ln, .ref h8, .int mt, .int en, .int sx, .int pl, .int ov, .int tk, .ref h9])), (h1, .inl (cC, 6, .inl na)), (h2, .inl (cI, 2, .inl cu)), (h3, .inl (cI, 48, .inl (upd pa ((24 * x1) + (cu x1.toNatClampNeg)).toNatClampNeg o_9))), (h4, .inl (cI, 48, .inl (upd re ((24 * x1) + (cu x1.toNatClampNeg)).toNatClampNeg x2))), (h5, .inl (cZ, 48, .inl (upd cl ((24 * x1) + (cu x1.toNatClampNeg)).toNatClampNeg (vp_nar .boolean 0)))), (h6, .inl (cI, 48, .inl si)), (h7, .inl (cC, 288, .inl lt)), (h8, .inl (cC, 3000, .inl pg)), (h9, .inl (cC, 6, .inl rd))] H_26 := hP
  have hD : va_D A [(h0, .inr (6, [.int bg, .ref h1, .ref h2, .ref h3, .ref h4, .ref h5, .ref h6, .ref h7, .int ln, .ref h8, .int mt, .int en, .int sx, .int pl, .int ov, .int tk, .ref h9])), (h1, .inl (cC, 6, .inl na)), (h2, .inl (cI, 2, .inl cu)), (h3, .inl (cI, 48, .inl (upd pa ((24 * x1) + (cu x1.toNatClampNeg)).toNatClampNeg o_9))), (h4, .inl (cI, 48, .inl (upd re ((24 * x1) + (cu x1.toNatClampNeg)).toNatClampNeg x2))), (h5, .inl (cZ, 48, .inl (upd cl ((24 * x1) + (cu x1.toNatClampNeg)).toNatClampNeg (vp_nar .boolean 0)))), (h6, .inl (cI, 48, .inl si)), (h7, .inl (cC, 288, .inl lt)), (h8, .inl (cC, 3000, .inl pg)), (h9, .inl (cC, 6, .inl rd))] := hD
  refine lv_aload_n hx hb dd_M_grow_51 rfl (lv_at hl 2 rfl) ?_
  refine va_get (D := (dC, dI)) (ci := 6) (v := .ref h6) (C := cn_M) (T := tt_M) (N := 17) hx hb ht in_M hown hK hP 0 rfl rfl 6 (by decide) (ht _ tw_3_47) (fun _ h9 => h9) rfl dd_M_grow_52 ?_
  refine lv_bipush (v := 24) hx hb dd_M_grow_55 (by decide) ?_
  refine lv_iload_n hx hb dd_M_grow_57 rfl (lv_at hl 3 rfl) ?_
  refine lv_imul hx hb dd_M_grow_58 ?_
  refine lv_iload_n hx hb dd_M_grow_59 rfl (lv_at hl 1 rfl) ?_
  refine lv_iadd hx hb dd_M_grow_60 ?_
  refine lv_iconst (v := 0) hx hb dd_M_grow_61 (by decide) ?_
  obtain ⟨g_28, hF⟩ := jv_gi hF
  refine va_iast hx hb hK hP hD hS 6 0 rfl rfl (jv_in g_28) dd_M_grow_62 (fun H_29 locs_30 hP hD hS => ?_)
  have hP : va_P (dC, dI) vwCl [(h0, .inr (6, [.int bg, .ref h1, .ref h2, .ref h3, .ref h4, .ref h5, .ref h6, .ref h7, .int ln, .ref h8, .int mt, .int en, .int sx, .int pl, .int ov, .int tk, .ref h9])), (h1, .inl (cC, 6, .inl na)), (h2, .inl (cI, 2, .inl cu)), (h3, .inl (cI, 48, .inl (upd pa ((24 * x1) + (cu x1.toNatClampNeg)).toNatClampNeg o_9))), (h4, .inl (cI, 48, .inl (upd re ((24 * x1) + (cu x1.toNatClampNeg)).toNatClampNeg x2))), (h5, .inl (cZ, 48, .inl (upd cl ((24 * x1) + (cu x1.toNatClampNeg)).toNatClampNeg (vp_nar .boolean 0)))), (h6, .inl (cI, 48, .inl (upd si ((24 * x1) + (cu x1.toNatClampNeg)).toNatClampNeg 0))), (h7, .inl (cC, 288, .inl lt)), (h8, .inl (cC, 3000, .inl pg)), (h9, .inl (cC, 6, .inl rd))] H_29 := hP
  have hD : va_D A [(h0, .inr (6, [.int bg, .ref h1, .ref h2, .ref h3, .ref h4, .ref h5, .ref h6, .ref h7, .int ln, .ref h8, .int mt, .int en, .int sx, .int pl, .int ov, .int tk, .ref h9])), (h1, .inl (cC, 6, .inl na)), (h2, .inl (cI, 2, .inl cu)), (h3, .inl (cI, 48, .inl (upd pa ((24 * x1) + (cu x1.toNatClampNeg)).toNatClampNeg o_9))), (h4, .inl (cI, 48, .inl (upd re ((24 * x1) + (cu x1.toNatClampNeg)).toNatClampNeg x2))), (h5, .inl (cZ, 48, .inl (upd cl ((24 * x1) + (cu x1.toNatClampNeg)).toNatClampNeg (vp_nar .boolean 0)))), (h6, .inl (cI, 48, .inl (upd si ((24 * x1) + (cu x1.toNatClampNeg)).toNatClampNeg 0))), (h7, .inl (cC, 288, .inl lt)), (h8, .inl (cC, 3000, .inl pg)), (h9, .inl (cC, 6, .inl rd))] := hD
  refine lv_aload_n hx hb dd_M_grow_63 rfl (lv_at hl 2 rfl) ?_
  refine va_get (D := (dC, dI)) (ci := 6) (v := .ref h2) (C := cn_M) (T := tt_M) (N := 17) hx hb ht in_M hown hK hP 0 rfl rfl 2 (by decide) (ht _ tw_3_43) (fun _ h9 => h9) rfl dd_M_grow_64 ?_
  refine lv_iload_n hx hb dd_M_grow_67 rfl (lv_at hl 3 rfl) ?_
  refine lv_dup2_11 hx hb dd_M_grow_68 rfl rfl ?_
  obtain ⟨g_31, hF⟩ := jv_gi hF
  refine va_iald hx hb hK hP 2 0 rfl rfl (jv_in g_31) dd_M_grow_69 ?_
  refine lv_iconst (v := 1) hx hb dd_M_grow_70 (by decide) ?_
  refine lv_iadd hx hb dd_M_grow_71 ?_
  obtain ⟨g_32, hF⟩ := jv_gi hF
  refine va_iast hx hb hK hP hD hS 2 0 rfl rfl (jv_in g_32) dd_M_grow_72 (fun H_33 locs_34 hP hD hS => ?_)
  have hP : va_P (dC, dI) vwCl [(h0, .inr (6, [.int bg, .ref h1, .ref h2, .ref h3, .ref h4, .ref h5, .ref h6, .ref h7, .int ln, .ref h8, .int mt, .int en, .int sx, .int pl, .int ov, .int tk, .ref h9])), (h1, .inl (cC, 6, .inl na)), (h2, .inl (cI, 2, .inl (upd cu x1.toNatClampNeg ((cu x1.toNatClampNeg) + 1)))), (h3, .inl (cI, 48, .inl (upd pa ((24 * x1) + (cu x1.toNatClampNeg)).toNatClampNeg o_9))), (h4, .inl (cI, 48, .inl (upd re ((24 * x1) + (cu x1.toNatClampNeg)).toNatClampNeg x2))), (h5, .inl (cZ, 48, .inl (upd cl ((24 * x1) + (cu x1.toNatClampNeg)).toNatClampNeg (vp_nar .boolean 0)))), (h6, .inl (cI, 48, .inl (upd si ((24 * x1) + (cu x1.toNatClampNeg)).toNatClampNeg 0))), (h7, .inl (cC, 288, .inl lt)), (h8, .inl (cC, 3000, .inl pg)), (h9, .inl (cC, 6, .inl rd))] H_33 := hP
  have hD : va_D A [(h0, .inr (6, [.int bg, .ref h1, .ref h2, .ref h3, .ref h4, .ref h5, .ref h6, .ref h7, .int ln, .ref h8, .int mt, .int en, .int sx, .int pl, .int ov, .int tk, .ref h9])), (h1, .inl (cC, 6, .inl na)), (h2, .inl (cI, 2, .inl (upd cu x1.toNatClampNeg ((cu x1.toNatClampNeg) + 1)))), (h3, .inl (cI, 48, .inl (upd pa ((24 * x1) + (cu x1.toNatClampNeg)).toNatClampNeg o_9))), (h4, .inl (cI, 48, .inl (upd re ((24 * x1) + (cu x1.toNatClampNeg)).toNatClampNeg x2))), (h5, .inl (cZ, 48, .inl (upd cl ((24 * x1) + (cu x1.toNatClampNeg)).toNatClampNeg (vp_nar .boolean 0)))), (h6, .inl (cI, 48, .inl (upd si ((24 * x1) + (cu x1.toNatClampNeg)).toNatClampNeg 0))), (h7, .inl (cC, 288, .inl lt)), (h8, .inl (cC, 3000, .inl pg)), (h9, .inl (cC, 6, .inl rd))] := hD
  refine lv_iload_n hx hb dd_M_grow_73 rfl (lv_at hl 1 rfl) ?_
  subst hQ
  obtain rfl := Option.some.inj hF
  exact W.iret (v := cu x1.toNatClampNeg) hx hb hr (fun t ht hW => ⟨⟨cu x1.toNatClampNeg, (), rfl, rfl, by rw [ht]; exact hP, va_K.moved hW.alike hK, hD⟩, hS.F ht⟩) hS.2.2 dd_M_grow_74
set_option maxHeartbeats 40000000 in
set_option maxRecDepth 100000 in
theorem c_M_addNamed (l : Launch) (dC : Nat → ClassId) (dI : Nat → Nat → Nat) (cI cL cC cZ : ClassId) (h0 h1 h2 h3 h4 h5 h6 h7 h8 h9 : Nat) (sz : Nat) (bg : Int32) (ln : Int32) (mt : Int32) (en : Int32) (sx : Int32) (pl : Int32) (ov : Int32) (tk : Int32) (na : Nat → Int32) (cu : Nat → Int32) (pa : Nat → Int32) (re : Nat → Int32) (cl : Nat → Int32) (si : Nat → Int32) (lt : Nat → Int32) (pg : Nat → Int32) (rd : Nat → Int32) (x1 : Int32) (out : Int32 × Int32 × (Nat → Int32) × (Nat → Int32) × (Nat → Int32) × (Nat → Int32) × (Nat → Int32) × (Nat → Int32)) (hF : fn_M_addNamed na bg cu pa re cl si lt x1 = some out) : Met l yy_M_addNamed ws_M_addNamed { frames := 2, cells := 0, slots := 0, locals := 47 } (mP_ (dC, dI) (tk_ cI cL cC cZ) [(h0, .inr (6, [.int bg, .ref h1, .ref h2, .ref h3, .ref h4, .ref h5, .ref h6, .ref h7, .int ln, .ref h8, .int mt, .int en, .int sx, .int pl, .int ov, .int tk, .ref h9])), (h1, .inl (cC, 6, .inl na)), (h2, .inl (cI, 2, .inl cu)), (h3, .inl (cI, 48, .inl pa)), (h4, .inl (cI, 48, .inl re)), (h5, .inl (cZ, 48, .inl cl)), (h6, .inl (cI, 48, .inl si)), (h7, .inl (cC, 288, .inl lt)), (h8, .inl (cC, 3000, .inl pg)), (h9, .inl (cC, 6, .inl rd))] sz [.ref h0, .int x1]) (va_Qi (fun r (_ : Unit) => r = out.1) (mB_ (dC, dI) (tk_ cI cL cC cZ) [(h0, .inr (6, [.int out.2.1, .ref h1, .ref h2, .ref h3, .ref h4, .ref h5, .ref h6, .ref h7, .int ln, .ref h8, .int mt, .int en, .int sx, .int pl, .int ov, .int tk, .ref h9])), (h1, .inl (cC, 6, .inl na)), (h2, .inl (cI, 2, .inl out.2.2.1)), (h3, .inl (cI, 48, .inl out.2.2.2.1)), (h4, .inl (cI, 48, .inl out.2.2.2.2.1)), (h5, .inl (cZ, 48, .inl out.2.2.2.2.2.1)), (h6, .inl (cI, 48, .inl out.2.2.2.2.2.2.1)), (h7, .inl (cC, 288, .inl out.2.2.2.2.2.2.2)), (h8, .inl (cC, 3000, .inl pg)), (h9, .inl (cC, 6, .inl rd))] (va_A [(h0, .inr (6, [.int bg, .ref h1, .ref h2, .ref h3, .ref h4, .ref h5, .ref h6, .ref h7, .int ln, .ref h8, .int mt, .int en, .int sx, .int pl, .int ov, .int tk, .ref h9])), (h1, .inl (cC, 6, .inl na)), (h2, .inl (cI, 2, .inl cu)), (h3, .inl (cI, 48, .inl pa)), (h4, .inl (cI, 48, .inl re)), (h5, .inl (cZ, 48, .inl cl)), (h6, .inl (cI, 48, .inl si)), (h7, .inl (cC, 288, .inl lt)), (h8, .inl (cC, 3000, .inl pg)), (h9, .inl (cC, 6, .inl rd))] sz)) (va_A [(h0, .inr (6, [.int bg, .ref h1, .ref h2, .ref h3, .ref h4, .ref h5, .ref h6, .ref h7, .int ln, .ref h8, .int mt, .int en, .int sx, .int pl, .int ov, .int tk, .ref h9])), (h1, .inl (cC, 6, .inl na)), (h2, .inl (cI, 2, .inl cu)), (h3, .inl (cI, 48, .inl pa)), (h4, .inl (cI, 48, .inl re)), (h5, .inl (cZ, 48, .inl cl)), (h6, .inl (cI, 48, .inl si)), (h7, .inl (cC, 288, .inl lt)), (h8, .inl (cC, 3000, .inl pg)), (h9, .inl (cC, 6, .inl rd))] sz)) 0 0 (va_A [(h0, .inr (6, [.int bg, .ref h1, .ref h2, .ref h3, .ref h4, .ref h5, .ref h6, .ref h7, .int ln, .ref h8, .int mt, .int en, .int sx, .int pl, .int ov, .int tk, .ref h9])), (h1, .inl (cC, 6, .inl na)), (h2, .inl (cI, 2, .inl cu)), (h3, .inl (cI, 48, .inl pa)), (h4, .inl (cI, 48, .inl re)), (h5, .inl (cZ, 48, .inl cl)), (h6, .inl (cI, 48, .inl si)), (h7, .inl (cC, 288, .inl lt)), (h8, .inl (cC, 3000, .inl pg)), (h9, .inl (cC, 6, .inl rd))] sz) := by
  refine Met.ofW (cc := cc_M_addNamed) (maxL := 4) (ret := (some .int)) (by decide) rfl ?_
  intro p e s m args below meth c s₁ B hml hv
  obtain ⟨hargs, hsz, hP, hK, hD0⟩ := hv
  have hx := B.exec
  have hb := B.bytes
  have hr := B.returns
  have hts := atoms_spec (ws := ws_M_addNamed) B.pre
  have ht : ∀ w ∈ TB_, w.before args s = true := fun w h => hts w (List.mem_cons_of_mem _ h)
  have hown : s.vm.findClass cn_M = some m.cls := findClass_of_methodNamed B.named
  have hlocks := B.notSynchronized
  subst hsz
  have hD := hD0.self (sz := s.heap.size)
  generalize hAe : va_A [(h0, .inr (6, [.int bg, .ref h1, .ref h2, .ref h3, .ref h4, .ref h5, .ref h6, .ref h7, .int ln, .ref h8, .int mt, .int en, .int sx, .int pl, .int ov, .int tk, .ref h9])), (h1, .inl (cC, 6, .inl na)), (h2, .inl (cI, 2, .inl cu)), (h3, .inl (cI, 48, .inl pa)), (h4, .inl (cI, 48, .inl re)), (h5, .inl (cZ, 48, .inl cl)), (h6, .inl (cI, 48, .inl si)), (h7, .inl (cC, 288, .inl lt)), (h8, .inl (cC, 3000, .inl pg)), (h9, .inl (cC, 6, .inl rd))] s.heap.size = A at hD ⊢
  have hA : ∀ q : Nat, s.heap.size ≤ q → A q := fun q h => by rw [← hAe]; exact Or.inr h
  have hS : va_S A s.heap s.heap [] := va_S.rf
  have hP : va_P (dC, dI) vwCl [(h0, .inr (6, [.int bg, .ref h1, .ref h2, .ref h3, .ref h4, .ref h5, .ref h6, .ref h7, .int ln, .ref h8, .int mt, .int en, .int sx, .int pl, .int ov, .int tk, .ref h9])), (h1, .inl (cC, 6, .inl na)), (h2, .inl (cI, 2, .inl cu)), (h3, .inl (cI, 48, .inl pa)), (h4, .inl (cI, 48, .inl re)), (h5, .inl (cZ, 48, .inl cl)), (h6, .inl (cI, 48, .inl si)), (h7, .inl (cC, 288, .inl lt)), (h8, .inl (cC, 3000, .inl pg)), (h9, .inl (cC, 6, .inl rd))] s.heap := hP
  have hl := lv_entry [.ref h0, .int x1] (n := 4) (Nat.le_of_ble_eq_true rfl)
  have he : entryFrame m args 4 = _ := (congrArg (fun a => entryFrame m a 4) hargs).trans (lg_entry_eq m [.ref h0, .int x1] 4)
  rw [he]
  generalize (lg_sl [.ref h0, .int x1] ++ List.replicate (4 - (lg_sl [.ref h0, .int x1]).length) Slot.unset).toArray = ls at hl ⊢
  have hl : lv_has ls 4 [(0, .ref h0), (1, .int x1)] := hl
  generalize hQ : MQ below _ args s _ _ _ = Q
  have lp9 : ∀ (n9 : Nat), ∀ (bg : Int32) (cu : Nat → Int32) (pa : Nat → Int32) (re : Nat → Int32) (cl : Nat → Int32) (si : Nat → Int32) (lt : Nat → Int32) (x2 : Int32) (x3 : Int32), fl_M_addNamed_9 na  n9 (bg, cu, pa, re, cl, si, lt, x2, x3) = some out → ∀ (H : Heap) (locs : List Loc), va_P (dC, dI) vwCl [(h0, .inr (6, [.int bg, .ref h1, .ref h2, .ref h3, .ref h4, .ref h5, .ref h6, .ref h7, .int ln, .ref h8, .int mt, .int en, .int sx, .int pl, .int ov, .int tk, .ref h9])), (h1, .inl (cC, 6, .inl na)), (h2, .inl (cI, 2, .inl cu)), (h3, .inl (cI, 48, .inl pa)), (h4, .inl (cI, 48, .inl re)), (h5, .inl (cZ, 48, .inl cl)), (h6, .inl (cI, 48, .inl si)), (h7, .inl (cC, 288, .inl lt)), (h8, .inl (cC, 3000, .inl pg)), (h9, .inl (cC, 6, .inl rd))] H → va_D A [(h0, .inr (6, [.int bg, .ref h1, .ref h2, .ref h3, .ref h4, .ref h5, .ref h6, .ref h7, .int ln, .ref h8, .int mt, .int en, .int sx, .int pl, .int ov, .int tk, .ref h9])), (h1, .inl (cC, 6, .inl na)), (h2, .inl (cI, 2, .inl cu)), (h3, .inl (cI, 48, .inl pa)), (h4, .inl (cI, 48, .inl re)), (h5, .inl (cZ, 48, .inl cl)), (h6, .inl (cI, 48, .inl si)), (h7, .inl (cC, 288, .inl lt)), (h8, .inl (cC, 3000, .inl pg)), (h9, .inl (cC, 6, .inl rd))] → va_S A s.heap H locs → ∀ ls : Array Slot, lv_has ls 4 [(0, .ref h0), (2, .int x2), (3, .int x3)] → W p l e (headSpec ws_M_addNamed { frames := 2, cells := 0, slots := 0, locals := 47 }).room s m args below meth c H locs 0 0 Q (F0 m 9 ls []) := by
    intro n9
    induction n9 with
    | zero =>
      intro bg cu pa re cl si lt x2 x3 hF
      exact (jv_no hF).elim
    | succ n9 ih9 =>
      intro bg cu pa re cl si lt x2 x3 hF H locs hP hD hS ls hl
      have hF : fb_M_addNamed_9 na  (fl_M_addNamed_9 na  n9) bg cu pa re cl si lt x2 x3 = some out := hF
      unfold fb_M_addNamed_9 at hF
      refine lv_iload_n hx hb dd_M_addNamed_9 rfl (lv_at hl 2 rfl) ?_
      refine lv_aload_n hx hb dd_M_addNamed_10 rfl (lv_at hl 0 rfl) ?_
      refine va_get (D := (dC, dI)) (ci := 6) (v := .int bg) (C := cn_M) (T := tt_M) (N := 17) hx hb ht in_M hown hK hP 0 rfl rfl 0 (by decide) (ht _ tw_3_41) (fun _ h9 => h9) rfl dd_M_addNamed_11 ?_
      refine lv_icmp_ge (tgt := 40) hx hb dd_M_addNamed_14 (by decide) (fun c_13 => ?_) (fun c_13 => ?_)
      · have hF := jv_t c_13 hF
        refine lv_aload_n hx hb dd_M_addNamed_40 rfl (lv_at hl 0 rfl) ?_
        refine va_get (D := (dC, dI)) (ci := 6) (v := .ref h6) (C := cn_M) (T := tt_M) (N := 17) hx hb ht in_M hown hK hP 0 rfl rfl 6 (by decide) (ht _ tw_3_47) (fun _ h9 => h9) rfl dd_M_addNamed_41 ?_
        refine lv_iload_n hx hb dd_M_addNamed_44 rfl (lv_at hl 1 rfl) ?_
        refine lv_aload_n hx hb dd_M_addNamed_45 rfl (lv_at hl 0 rfl) ?_
        refine va_get (D := (dC, dI)) (ci := 6) (v := .int bg) (C := cn_M) (T := tt_M) (N := 17) hx hb ht in_M hown hK hP 0 rfl rfl 0 (by decide) (ht _ tw_3_41) (fun _ h9 => h9) rfl dd_M_addNamed_46 ?_
        obtain ⟨g_14, hF⟩ := jv_gi hF
        refine va_iast hx hb hK hP hD hS 6 0 rfl rfl (jv_in g_14) dd_M_addNamed_49 (fun H_15 locs_16 hP hD hS => ?_)
        have hP : va_P (dC, dI) vwCl [(h0, .inr (6, [.int bg, .ref h1, .ref h2, .ref h3, .ref h4, .ref h5, .ref h6, .ref h7, .int ln, .ref h8, .int mt, .int en, .int sx, .int pl, .int ov, .int tk, .ref h9])), (h1, .inl (cC, 6, .inl na)), (h2, .inl (cI, 2, .inl cu)), (h3, .inl (cI, 48, .inl pa)), (h4, .inl (cI, 48, .inl re)), (h5, .inl (cZ, 48, .inl cl)), (h6, .inl (cI, 48, .inl (upd si x2.toNatClampNeg bg))), (h7, .inl (cC, 288, .inl lt)), (h8, .inl (cC, 3000, .inl pg)), (h9, .inl (cC, 6, .inl rd))] H_15 := hP
        have hD : va_D A [(h0, .inr (6, [.int bg, .ref h1, .ref h2, .ref h3, .ref h4, .ref h5, .ref h6, .ref h7, .int ln, .ref h8, .int mt, .int en, .int sx, .int pl, .int ov, .int tk, .ref h9])), (h1, .inl (cC, 6, .inl na)), (h2, .inl (cI, 2, .inl cu)), (h3, .inl (cI, 48, .inl pa)), (h4, .inl (cI, 48, .inl re)), (h5, .inl (cZ, 48, .inl cl)), (h6, .inl (cI, 48, .inl (upd si x2.toNatClampNeg bg))), (h7, .inl (cC, 288, .inl lt)), (h8, .inl (cC, 3000, .inl pg)), (h9, .inl (cC, 6, .inl rd))] := hD
        refine lv_aload_n hx hb dd_M_addNamed_50 rfl (lv_at hl 0 rfl) ?_
        refine lv_iconst (v := 0) hx hb dd_M_addNamed_51 (by decide) ?_
        refine va_put (D := (dC, dI)) (ci := 6) (v := .int 0) (ty := .int) (C := cn_M) (T := tt_M) (N := 17) hx hb ht in_M ty_M tyok_M nm_M hown hK hP hD hS 0 rfl rfl 0 (by decide) (ht _ tw_3_41) (fun _ h9 => h9) rfl (by decide +kernel) rfl rfl (Nat.le_of_ble_eq_true rfl) dd_M_addNamed_52 (fun H_17 locs_18 hP hD hS => ?_)
        have hP : va_P (dC, dI) vwCl [(h0, .inr (6, [.int 0, .ref h1, .ref h2, .ref h3, .ref h4, .ref h5, .ref h6, .ref h7, .int ln, .ref h8, .int mt, .int en, .int sx, .int pl, .int ov, .int tk, .ref h9])), (h1, .inl (cC, 6, .inl na)), (h2, .inl (cI, 2, .inl cu)), (h3, .inl (cI, 48, .inl pa)), (h4, .inl (cI, 48, .inl re)), (h5, .inl (cZ, 48, .inl cl)), (h6, .inl (cI, 48, .inl (upd si x2.toNatClampNeg bg))), (h7, .inl (cC, 288, .inl lt)), (h8, .inl (cC, 3000, .inl pg)), (h9, .inl (cC, 6, .inl rd))] H_17 := hP
        have hD : va_D A [(h0, .inr (6, [.int 0, .ref h1, .ref h2, .ref h3, .ref h4, .ref h5, .ref h6, .ref h7, .int ln, .ref h8, .int mt, .int en, .int sx, .int pl, .int ov, .int tk, .ref h9])), (h1, .inl (cC, 6, .inl na)), (h2, .inl (cI, 2, .inl cu)), (h3, .inl (cI, 48, .inl pa)), (h4, .inl (cI, 48, .inl re)), (h5, .inl (cZ, 48, .inl cl)), (h6, .inl (cI, 48, .inl (upd si x2.toNatClampNeg bg))), (h7, .inl (cC, 288, .inl lt)), (h8, .inl (cC, 3000, .inl pg)), (h9, .inl (cC, 6, .inl rd))] := hD
        refine lv_iload_n hx hb dd_M_addNamed_55 rfl (lv_at hl 1 rfl) ?_
        subst hQ
        obtain rfl := Option.some.inj hF
        exact W.iret (v := x2) hx hb hr (fun t ht hW => ⟨⟨x2, (), rfl, rfl, by rw [ht]; exact hP, va_K.moved hW.alike hK, hD⟩, hS.F ht⟩) hS.2.2 dd_M_addNamed_56
      · have hF := jv_f c_13 hF
        refine lv_aload_n hx hb dd_M_addNamed_17 rfl (lv_at hl 0 rfl) ?_
        refine va_get (D := (dC, dI)) (ci := 6) (v := .ref h7) (C := cn_M) (T := tt_M) (N := 17) hx hb ht in_M hown hK hP 0 rfl rfl 7 (by decide) (ht _ tw_3_48) (fun _ h9 => h9) rfl dd_M_addNamed_18 ?_
        refine lv_bipush (v := 6) hx hb dd_M_addNamed_21 (by decide) ?_
        refine lv_iload_n hx hb dd_M_addNamed_23 rfl (lv_at hl 1 rfl) ?_
        refine lv_imul hx hb dd_M_addNamed_24 ?_
        refine lv_iload_n hx hb dd_M_addNamed_25 rfl (lv_at hl 2 rfl) ?_
        refine lv_iadd hx hb dd_M_addNamed_26 ?_
        refine lv_aload_n hx hb dd_M_addNamed_27 rfl (lv_at hl 0 rfl) ?_
        refine va_get (D := (dC, dI)) (ci := 6) (v := .ref h1) (C := cn_M) (T := tt_M) (N := 17) hx hb ht in_M hown hK hP 0 rfl rfl 1 (by decide) (ht _ tw_3_42) (fun _ h9 => h9) rfl dd_M_addNamed_28 ?_
        refine lv_iload_n hx hb dd_M_addNamed_31 rfl (lv_at hl 2 rfl) ?_
        obtain ⟨g_19, hF⟩ := jv_gi hF
        refine va_cald hx hb hK hP 1 2 rfl rfl (jv_in g_19) dd_M_addNamed_32 ?_
        obtain ⟨g_20, hF⟩ := jv_gi hF
        refine va_cast hx hb hK hP hD hS 7 2 rfl rfl (jv_in g_20) dd_M_addNamed_33 (fun H_21 locs_22 hP hD hS => ?_)
        have hP : va_P (dC, dI) vwCl [(h0, .inr (6, [.int bg, .ref h1, .ref h2, .ref h3, .ref h4, .ref h5, .ref h6, .ref h7, .int ln, .ref h8, .int mt, .int en, .int sx, .int pl, .int ov, .int tk, .ref h9])), (h1, .inl (cC, 6, .inl na)), (h2, .inl (cI, 2, .inl cu)), (h3, .inl (cI, 48, .inl pa)), (h4, .inl (cI, 48, .inl re)), (h5, .inl (cZ, 48, .inl cl)), (h6, .inl (cI, 48, .inl si)), (h7, .inl (cC, 288, .inl (upd lt ((6 * x2) + x3).toNatClampNeg (vp_nar .char (na x3.toNatClampNeg))))), (h8, .inl (cC, 3000, .inl pg)), (h9, .inl (cC, 6, .inl rd))] H_21 := hP
        have hD : va_D A [(h0, .inr (6, [.int bg, .ref h1, .ref h2, .ref h3, .ref h4, .ref h5, .ref h6, .ref h7, .int ln, .ref h8, .int mt, .int en, .int sx, .int pl, .int ov, .int tk, .ref h9])), (h1, .inl (cC, 6, .inl na)), (h2, .inl (cI, 2, .inl cu)), (h3, .inl (cI, 48, .inl pa)), (h4, .inl (cI, 48, .inl re)), (h5, .inl (cZ, 48, .inl cl)), (h6, .inl (cI, 48, .inl si)), (h7, .inl (cC, 288, .inl (upd lt ((6 * x2) + x3).toNatClampNeg (vp_nar .char (na x3.toNatClampNeg))))), (h8, .inl (cC, 3000, .inl pg)), (h9, .inl (cC, 6, .inl rd))] := hD
        refine lv_iinc (v := x3 + 1) (lv' := [(3, .int (x3 + 1)), (0, .ref h0), (2, .int x2)]) hx hb dd_M_addNamed_34 hl (k := 2) rfl rfl (by decide) rfl (fun ls hl => ?_)
        refine lv_goto (tgt := 9) hx hb dd_M_addNamed_37 (by decide) ?_
        exact ih9 bg cu pa re cl si (upd lt ((6 * x2) + x3).toNatClampNeg (vp_nar .char (na x3.toNatClampNeg))) x2 (x3 + 1) hF H_21 locs_22 hP hD hS ls (lv_sub hl [1, 2, 0] rfl)
  unfold fn_M_addNamed at hF
  refine lv_aload_n hx hb dd_M_addNamed_0 rfl (lv_at hl 0 rfl) ?_
  refine lv_iconst (v := 0) hx hb dd_M_addNamed_1 (by decide) ?_
  refine lv_iload_n hx hb dd_M_addNamed_2 rfl (lv_at hl 1 rfl) ?_
  obtain ⟨o_3, ho_3, hF⟩ := jv_bi hF
  refine jv_mi (wr := []) (w1 := [(h0, .inr (6, [.int bg, .ref h1, .ref h2, .ref h3, .ref h4, .ref h5, .ref h6, .ref h7, .int ln, .ref h8, .int mt, .int en, .int sx, .int pl, .int ov, .int tk, .ref h9])), (h1, .inl (cC, 6, .inl na)), (h2, .inl (cI, 2, .inl o_3.2.1)), (h3, .inl (cI, 48, .inl o_3.2.2.1)), (h4, .inl (cI, 48, .inl o_3.2.2.2.1)), (h5, .inl (cZ, 48, .inl o_3.2.2.2.2.1)), (h6, .inl (cI, 48, .inl o_3.2.2.2.2.2)), (h7, .inl (cC, 288, .inl lt)), (h8, .inl (cC, 3000, .inl pg)), (h9, .inl (cC, 6, .inl rd))]) (va_runV (C := cn_M) (As := [.int 0, .int x1]) (rest := []) ⟨hx, hb, hml, hown, ht⟩ (c_M_grow l dC dI cI cL cC cZ h0 h1 h2 h3 h4 h5 h6 h7 h8 h9 s.heap.size bg ln mt en sx pl ov tk na cu pa re cl si lt pg rd 0 x1 _ ho_3) (cwV 2 ht (gi_V tw_3_114 tw_3_116 tw_p_17 tw_1_4 tw_3_117) rfl rfl rfl (by decide +kernel) ⟨Nat.le_of_ble_eq_true rfl, Nat.le_of_ble_eq_true rfl⟩) (jv_pv hK hP hD [0, 1, 2, 3, 4, 5, 6, 7, 8, 9] rfl (by decide) rfl (va_recv hK hP (ci := 6) (q0 := 0) rfl rfl)) rfl rfl hl.1 rfl (lv_room (Nat.le_of_ble_eq_true rfl)) dd_M_addNamed_3 ⟨Nat.le_of_ble_eq_true rfl, Nat.le_of_ble_eq_true rfl⟩) hP hD hS hA [0, 1, 2, 3, 4, 5, 6, 7, 8, 9] [] rfl rfl (by decide) (by decide) (fun H_23 locs_24 hP hD hS => ?_)
  have hP : va_P (dC, dI) vwCl [(h0, .inr (6, [.int bg, .ref h1, .ref h2, .ref h3, .ref h4, .ref h5, .ref h6, .ref h7, .int ln, .ref h8, .int mt, .int en, .int sx, .int pl, .int ov, .int tk, .ref h9])), (h1, .inl (cC, 6, .inl na)), (h2, .inl (cI, 2, .inl o_3.2.1)), (h3, .inl (cI, 48, .inl o_3.2.2.1)), (h4, .inl (cI, 48, .inl o_3.2.2.2.1)), (h5, .inl (cZ, 48, .inl o_3.2.2.2.2.1)), (h6, .inl (cI, 48, .inl o_3.2.2.2.2.2)), (h7, .inl (cC, 288, .inl lt)), (h8, .inl (cC, 3000, .inl pg)), (h9, .inl (cC, 6, .inl rd))] H_23 := hP.sub [0, 1, 2, 3, 4, 5, 6, 7, 8, 9] rfl
  have hD : va_D A [(h0, .inr (6, [.int bg, .ref h1, .ref h2, .ref h3, .ref h4, .ref h5, .ref h6, .ref h7, .int ln, .ref h8, .int mt, .int en, .int sx, .int pl, .int ov, .int tk, .ref h9])), (h1, .inl (cC, 6, .inl na)), (h2, .inl (cI, 2, .inl o_3.2.1)), (h3, .inl (cI, 48, .inl o_3.2.2.1)), (h4, .inl (cI, 48, .inl o_3.2.2.2.1)), (h5, .inl (cZ, 48, .inl o_3.2.2.2.2.1)), (h6, .inl (cI, 48, .inl o_3.2.2.2.2.2)), (h7, .inl (cC, 288, .inl lt)), (h8, .inl (cC, 3000, .inl pg)), (h9, .inl (cC, 6, .inl rd))] := hD.sub [0, 1, 2, 3, 4, 5, 6, 7, 8, 9] (by decide) rfl
  refine lv_istore_n (lv' := [(2, .int o_3.1), (0, .ref h0), (1, .int x1)]) hx hb dd_M_addNamed_6 rfl hl (by decide) rfl (fun ls hl => ?_)
  refine lv_iconst (v := 0) hx hb dd_M_addNamed_7 (by decide) ?_
  refine lv_istore_n (lv' := [(3, .int 0), (2, .int o_3.1), (0, .ref h0), (1, .int x1)]) hx hb dd_M_addNamed_8 rfl hl (by decide) rfl (fun ls hl => ?_)
  exact lp9 4000 bg o_3.2.1 o_3.2.2.1 o_3.2.2.2.1 o_3.2.2.2.2.1 o_3.2.2.2.2.2 lt o_3.1 0 hF H_23 locs_24 hP hD hS ls (lv_sub hl [2, 1, 0] rfl)
set_option maxHeartbeats 40000000 in
set_option maxRecDepth 100000 in
theorem c_M_open (l : Launch) (dC : Nat → ClassId) (dI : Nat → Nat → Nat) (cI cL cC cZ : ClassId) (h0 h1 h2 h3 h4 h5 h6 h7 h8 h9 : Nat) (sz : Nat) (bg : Int32) (ln : Int32) (mt : Int32) (en : Int32) (sx : Int32) (pl : Int32) (ov : Int32) (tk : Int32) (na : Nat → Int32) (cu : Nat → Int32) (pa : Nat → Int32) (re : Nat → Int32) (cl : Nat → Int32) (si : Nat → Int32) (lt : Nat → Int32) (pg : Nat → Int32) (rd : Nat → Int32)  (out : Int32 × Int32 × (Nat → Int32) × (Nat → Int32) × (Nat → Int32) × (Nat → Int32) × (Nat → Int32) × (Nat → Int32)) (hF : fn_M_open na bg cu pa re cl si lt = some out) : Met l yy_M_open ws_M_open { frames := 3, cells := 0, slots := 0, locals := 70 } (mP_ (dC, dI) (tk_ cI cL cC cZ) [(h0, .inr (6, [.int bg, .ref h1, .ref h2, .ref h3, .ref h4, .ref h5, .ref h6, .ref h7, .int ln, .ref h8, .int mt, .int en, .int sx, .int pl, .int ov, .int tk, .ref h9])), (h1, .inl (cC, 6, .inl na)), (h2, .inl (cI, 2, .inl cu)), (h3, .inl (cI, 48, .inl pa)), (h4, .inl (cI, 48, .inl re)), (h5, .inl (cZ, 48, .inl cl)), (h6, .inl (cI, 48, .inl si)), (h7, .inl (cC, 288, .inl lt)), (h8, .inl (cC, 3000, .inl pg)), (h9, .inl (cC, 6, .inl rd))] sz [.ref h0]) (va_Qi (fun r (_ : Unit) => r = out.1) (mB_ (dC, dI) (tk_ cI cL cC cZ) [(h0, .inr (6, [.int out.2.1, .ref h1, .ref h2, .ref h3, .ref h4, .ref h5, .ref h6, .ref h7, .int ln, .ref h8, .int mt, .int en, .int sx, .int pl, .int ov, .int tk, .ref h9])), (h1, .inl (cC, 6, .inl na)), (h2, .inl (cI, 2, .inl out.2.2.1)), (h3, .inl (cI, 48, .inl out.2.2.2.1)), (h4, .inl (cI, 48, .inl out.2.2.2.2.1)), (h5, .inl (cZ, 48, .inl out.2.2.2.2.2.1)), (h6, .inl (cI, 48, .inl out.2.2.2.2.2.2.1)), (h7, .inl (cC, 288, .inl out.2.2.2.2.2.2.2)), (h8, .inl (cC, 3000, .inl pg)), (h9, .inl (cC, 6, .inl rd))] (va_A [(h0, .inr (6, [.int bg, .ref h1, .ref h2, .ref h3, .ref h4, .ref h5, .ref h6, .ref h7, .int ln, .ref h8, .int mt, .int en, .int sx, .int pl, .int ov, .int tk, .ref h9])), (h1, .inl (cC, 6, .inl na)), (h2, .inl (cI, 2, .inl cu)), (h3, .inl (cI, 48, .inl pa)), (h4, .inl (cI, 48, .inl re)), (h5, .inl (cZ, 48, .inl cl)), (h6, .inl (cI, 48, .inl si)), (h7, .inl (cC, 288, .inl lt)), (h8, .inl (cC, 3000, .inl pg)), (h9, .inl (cC, 6, .inl rd))] sz)) (va_A [(h0, .inr (6, [.int bg, .ref h1, .ref h2, .ref h3, .ref h4, .ref h5, .ref h6, .ref h7, .int ln, .ref h8, .int mt, .int en, .int sx, .int pl, .int ov, .int tk, .ref h9])), (h1, .inl (cC, 6, .inl na)), (h2, .inl (cI, 2, .inl cu)), (h3, .inl (cI, 48, .inl pa)), (h4, .inl (cI, 48, .inl re)), (h5, .inl (cZ, 48, .inl cl)), (h6, .inl (cI, 48, .inl si)), (h7, .inl (cC, 288, .inl lt)), (h8, .inl (cC, 3000, .inl pg)), (h9, .inl (cC, 6, .inl rd))] sz)) 0 0 (va_A [(h0, .inr (6, [.int bg, .ref h1, .ref h2, .ref h3, .ref h4, .ref h5, .ref h6, .ref h7, .int ln, .ref h8, .int mt, .int en, .int sx, .int pl, .int ov, .int tk, .ref h9])), (h1, .inl (cC, 6, .inl na)), (h2, .inl (cI, 2, .inl cu)), (h3, .inl (cI, 48, .inl pa)), (h4, .inl (cI, 48, .inl re)), (h5, .inl (cZ, 48, .inl cl)), (h6, .inl (cI, 48, .inl si)), (h7, .inl (cC, 288, .inl lt)), (h8, .inl (cC, 3000, .inl pg)), (h9, .inl (cC, 6, .inl rd))] sz) := by
  refine Met.ofW (cc := cc_M_open) (maxL := 2) (ret := (some .int)) (by decide) rfl ?_
  intro p e s m args below meth c s₁ B hml hv
  obtain ⟨hargs, hsz, hP, hK, hD0⟩ := hv
  have hx := B.exec
  have hb := B.bytes
  have hr := B.returns
  have hts := atoms_spec (ws := ws_M_open) B.pre
  have ht : ∀ w ∈ TB_, w.before args s = true := fun w h => hts w (List.mem_cons_of_mem _ h)
  have hown : s.vm.findClass cn_M = some m.cls := findClass_of_methodNamed B.named
  have hlocks := B.notSynchronized
  subst hsz
  have hD := hD0.self (sz := s.heap.size)
  generalize hAe : va_A [(h0, .inr (6, [.int bg, .ref h1, .ref h2, .ref h3, .ref h4, .ref h5, .ref h6, .ref h7, .int ln, .ref h8, .int mt, .int en, .int sx, .int pl, .int ov, .int tk, .ref h9])), (h1, .inl (cC, 6, .inl na)), (h2, .inl (cI, 2, .inl cu)), (h3, .inl (cI, 48, .inl pa)), (h4, .inl (cI, 48, .inl re)), (h5, .inl (cZ, 48, .inl cl)), (h6, .inl (cI, 48, .inl si)), (h7, .inl (cC, 288, .inl lt)), (h8, .inl (cC, 3000, .inl pg)), (h9, .inl (cC, 6, .inl rd))] s.heap.size = A at hD ⊢
  have hA : ∀ q : Nat, s.heap.size ≤ q → A q := fun q h => by rw [← hAe]; exact Or.inr h
  have hS : va_S A s.heap s.heap [] := va_S.rf
  have hP : va_P (dC, dI) vwCl [(h0, .inr (6, [.int bg, .ref h1, .ref h2, .ref h3, .ref h4, .ref h5, .ref h6, .ref h7, .int ln, .ref h8, .int mt, .int en, .int sx, .int pl, .int ov, .int tk, .ref h9])), (h1, .inl (cC, 6, .inl na)), (h2, .inl (cI, 2, .inl cu)), (h3, .inl (cI, 48, .inl pa)), (h4, .inl (cI, 48, .inl re)), (h5, .inl (cZ, 48, .inl cl)), (h6, .inl (cI, 48, .inl si)), (h7, .inl (cC, 288, .inl lt)), (h8, .inl (cC, 3000, .inl pg)), (h9, .inl (cC, 6, .inl rd))] s.heap := hP
  have hl := lv_entry [.ref h0] (n := 2) (Nat.le_of_ble_eq_true rfl)
  have he : entryFrame m args 2 = _ := (congrArg (fun a => entryFrame m a 2) hargs).trans (lg_entry_eq m [.ref h0] 2)
  rw [he]
  generalize (lg_sl [.ref h0] ++ List.replicate (2 - (lg_sl [.ref h0]).length) Slot.unset).toArray = ls at hl ⊢
  have hl : lv_has ls 2 [(0, .ref h0)] := hl
  generalize hQ : MQ below _ args s _ _ _ = Q
  unfold fn_M_open at hF
  refine lv_aload_n hx hb dd_M_open_0 rfl (lv_at hl 0 rfl) ?_
  refine lv_iconst (v := 0) hx hb dd_M_open_1 (by decide) ?_
  obtain ⟨o_2, ho_2, hF⟩ := jv_bi hF
  refine jv_ci (va_runV (C := cn_M) (As := [.int 0]) (rest := []) ⟨hx, hb, hml, hown, ht⟩ (c_M_innermost l dC dI cI cL cC cZ h0 h1 h2 h3 h4 h5 h6 h7 h8 h9 s.heap.size bg ln mt en sx pl ov tk na cu pa re cl si lt pg rd 0 _ ho_2) (cwV 1 ht (gi_V tw_3_102 tw_3_104 tw_p_14 tw_1_4 tw_3_105) rfl rfl rfl (by decide +kernel) ⟨Nat.le_of_ble_eq_true rfl, Nat.le_of_ble_eq_true rfl⟩) (jv_pv hK hP hD [0, 1, 2, 3, 4, 5, 6, 7, 8, 9] rfl (by decide) rfl (va_recv hK hP (ci := 6) (q0 := 0) rfl rfl)) rfl rfl hl.1 rfl (lv_room (Nat.le_of_ble_eq_true rfl)) dd_M_open_2 ⟨Nat.le_of_ble_eq_true rfl, Nat.le_of_ble_eq_true rfl⟩) ?_
  refine lv_istore_n (lv' := [(1, .int o_2), (0, .ref h0)]) hx hb dd_M_open_5 rfl hl (by decide) rfl (fun ls hl => ?_)
  refine lv_aload_n hx hb dd_M_open_6 rfl (lv_at hl 1 rfl) ?_
  refine va_get (D := (dC, dI)) (ci := 6) (v := .ref h2) (C := cn_M) (T := tt_M) (N := 17) hx hb ht in_M hown hK hP 0 rfl rfl 2 (by decide) (ht _ tw_3_43) (fun _ h9 => h9) rfl dd_M_open_7 ?_
  refine lv_iconst (v := 0) hx hb dd_M_open_10 (by decide) ?_
  obtain ⟨g_9, hF⟩ := jv_gi hF
  refine va_iald hx hb hK hP 2 0 rfl rfl (jv_in g_9) dd_M_open_11 ?_
  refine lv_bipush (v := 24) hx hb dd_M_open_12 (by decide) ?_
  refine lv_icmp_eq (tgt := 31) hx hb dd_M_open_14 (by decide) (fun c_10 => ?_) (fun c_10 => ?_)
  · have hF := jv_t c_10 hF
    refine lv_bipush (v := (-2)) hx hb dd_M_open_31 (by decide) ?_
    subst hQ
    obtain rfl := Option.some.inj hF
    exact W.iret (v := (-2)) hx hb hr (fun t ht hW => ⟨⟨(-2), (), rfl, rfl, by rw [ht]; exact hP, va_K.moved hW.alike hK, hD⟩, hS.F ht⟩) hS.2.2 dd_M_open_33
  · have hF := jv_f c_10 hF
    refine lv_iload_n hx hb dd_M_open_17 rfl (lv_at hl 0 rfl) ?_
    refine lv_if_lt (tgt := 34) hx hb dd_M_open_18 (by decide) (fun c_11 => ?_) (fun c_11 => ?_)
    · have hF := jv_t c_11 hF
      refine lv_aload_n hx hb dd_M_open_34 rfl (lv_at hl 1 rfl) ?_
      refine lv_iconst (v := 4) hx hb dd_M_open_35 (by decide) ?_
      obtain ⟨o_36, ho_36, hF⟩ := jv_bi hF
      refine jv_mi (wr := []) (w1 := [(h0, .inr (6, [.int o_36.2.1, .ref h1, .ref h2, .ref h3, .ref h4, .ref h5, .ref h6, .ref h7, .int ln, .ref h8, .int mt, .int en, .int sx, .int pl, .int ov, .int tk, .ref h9])), (h1, .inl (cC, 6, .inl na)), (h2, .inl (cI, 2, .inl o_36.2.2.1)), (h3, .inl (cI, 48, .inl o_36.2.2.2.1)), (h4, .inl (cI, 48, .inl o_36.2.2.2.2.1)), (h5, .inl (cZ, 48, .inl o_36.2.2.2.2.2.1)), (h6, .inl (cI, 48, .inl o_36.2.2.2.2.2.2.1)), (h7, .inl (cC, 288, .inl o_36.2.2.2.2.2.2.2)), (h8, .inl (cC, 3000, .inl pg)), (h9, .inl (cC, 6, .inl rd))]) (va_runV (C := cn_M) (As := [.int 4]) (rest := []) ⟨hx, hb, hml, hown, ht⟩ (c_M_addNamed l dC dI cI cL cC cZ h0 h1 h2 h3 h4 h5 h6 h7 h8 h9 s.heap.size bg ln mt en sx pl ov tk na cu pa re cl si lt pg rd 4 _ ho_36) (cwV 1 ht (gi_V tw_3_110 tw_3_112 tw_p_16 tw_1_4 tw_3_113) rfl rfl rfl (by decide +kernel) ⟨Nat.le_of_ble_eq_true rfl, Nat.le_of_ble_eq_true rfl⟩) (jv_pv hK hP hD [0, 1, 2, 3, 4, 5, 6, 7, 8, 9] rfl (by decide) rfl (va_recv hK hP (ci := 6) (q0 := 0) rfl rfl)) rfl rfl hl.1 rfl (lv_room (Nat.le_of_ble_eq_true rfl)) dd_M_open_36 ⟨Nat.le_of_ble_eq_true rfl, Nat.le_of_ble_eq_true rfl⟩) hP hD hS hA [0, 1, 2, 3, 4, 5, 6, 7, 8, 9] [] rfl rfl (by decide) (by decide) (fun H_12 locs_13 hP hD hS => ?_)
      have hP : va_P (dC, dI) vwCl [(h0, .inr (6, [.int o_36.2.1, .ref h1, .ref h2, .ref h3, .ref h4, .ref h5, .ref h6, .ref h7, .int ln, .ref h8, .int mt, .int en, .int sx, .int pl, .int ov, .int tk, .ref h9])), (h1, .inl (cC, 6, .inl na)), (h2, .inl (cI, 2, .inl o_36.2.2.1)), (h3, .inl (cI, 48, .inl o_36.2.2.2.1)), (h4, .inl (cI, 48, .inl o_36.2.2.2.2.1)), (h5, .inl (cZ, 48, .inl o_36.2.2.2.2.2.1)), (h6, .inl (cI, 48, .inl o_36.2.2.2.2.2.2.1)), (h7, .inl (cC, 288, .inl o_36.2.2.2.2.2.2.2)), (h8, .inl (cC, 3000, .inl pg)), (h9, .inl (cC, 6, .inl rd))] H_12 := hP.sub [0, 1, 2, 3, 4, 5, 6, 7, 8, 9] rfl
      have hD : va_D A [(h0, .inr (6, [.int o_36.2.1, .ref h1, .ref h2, .ref h3, .ref h4, .ref h5, .ref h6, .ref h7, .int ln, .ref h8, .int mt, .int en, .int sx, .int pl, .int ov, .int tk, .ref h9])), (h1, .inl (cC, 6, .inl na)), (h2, .inl (cI, 2, .inl o_36.2.2.1)), (h3, .inl (cI, 48, .inl o_36.2.2.2.1)), (h4, .inl (cI, 48, .inl o_36.2.2.2.2.1)), (h5, .inl (cZ, 48, .inl o_36.2.2.2.2.2.1)), (h6, .inl (cI, 48, .inl o_36.2.2.2.2.2.2.1)), (h7, .inl (cC, 288, .inl o_36.2.2.2.2.2.2.2)), (h8, .inl (cC, 3000, .inl pg)), (h9, .inl (cC, 6, .inl rd))] := hD.sub [0, 1, 2, 3, 4, 5, 6, 7, 8, 9] (by decide) rfl
      subst hQ
      obtain rfl := Option.some.inj hF
      exact W.iret (v := o_36.1) hx hb hr (fun t ht hW => ⟨⟨o_36.1, (), rfl, rfl, by rw [ht]; exact hP, va_K.moved hW.alike hK, hD⟩, hS.F ht⟩) hS.2.2 dd_M_open_39
    · have hF := jv_f c_11 hF
      refine lv_aload_n hx hb dd_M_open_21 rfl (lv_at hl 1 rfl) ?_
      refine lv_iconst (v := 0) hx hb dd_M_open_22 (by decide) ?_
      refine lv_iload_n hx hb dd_M_open_23 rfl (lv_at hl 0 rfl) ?_
      obtain ⟨o_24, ho_24, hF⟩ := jv_bi hF
      refine jv_ci (va_runV (C := cn_M) (As := [.int 0, .int o_2]) (rest := []) ⟨hx, hb, hml, hown, ht⟩ (c_M_depthOf l dC dI cI cL cC cZ h0 h1 h2 h3 h4 h5 h6 h7 h8 h9 s.heap.size bg ln mt en sx pl ov tk na cu pa re cl si lt pg rd 0 o_2 _ ho_24) (cwV 2 ht (gi_V tw_3_106 tw_3_108 tw_p_15 tw_1_4 tw_3_109) rfl rfl rfl (by decide +kernel) ⟨Nat.le_of_ble_eq_true rfl, Nat.le_of_ble_eq_true rfl⟩) (jv_pv hK hP hD [0, 1, 2, 3, 4, 5, 6, 7, 8, 9] rfl (by decide) rfl (va_recv hK hP (ci := 6) (q0 := 0) rfl rfl)) rfl rfl hl.1 rfl (lv_room (Nat.le_of_ble_eq_true rfl)) dd_M_open_24 ⟨Nat.le_of_ble_eq_true rfl, Nat.le_of_ble_eq_true rfl⟩) ?_
      refine lv_iconst (v := 2) hx hb dd_M_open_27 (by decide) ?_
      refine lv_icmp_ne (tgt := 34) hx hb dd_M_open_28 (by decide) (fun c_14 => ?_) (fun c_14 => ?_)
      · have hF := jv_f c_14 hF
        refine lv_aload_n hx hb dd_M_open_34 rfl (lv_at hl 1 rfl) ?_
        refine lv_iconst (v := 4) hx hb dd_M_open_35 (by decide) ?_
        obtain ⟨o_36, ho_36, hF⟩ := jv_bi hF
        refine jv_mi (wr := []) (w1 := [(h0, .inr (6, [.int o_36.2.1, .ref h1, .ref h2, .ref h3, .ref h4, .ref h5, .ref h6, .ref h7, .int ln, .ref h8, .int mt, .int en, .int sx, .int pl, .int ov, .int tk, .ref h9])), (h1, .inl (cC, 6, .inl na)), (h2, .inl (cI, 2, .inl o_36.2.2.1)), (h3, .inl (cI, 48, .inl o_36.2.2.2.1)), (h4, .inl (cI, 48, .inl o_36.2.2.2.2.1)), (h5, .inl (cZ, 48, .inl o_36.2.2.2.2.2.1)), (h6, .inl (cI, 48, .inl o_36.2.2.2.2.2.2.1)), (h7, .inl (cC, 288, .inl o_36.2.2.2.2.2.2.2)), (h8, .inl (cC, 3000, .inl pg)), (h9, .inl (cC, 6, .inl rd))]) (va_runV (C := cn_M) (As := [.int 4]) (rest := []) ⟨hx, hb, hml, hown, ht⟩ (c_M_addNamed l dC dI cI cL cC cZ h0 h1 h2 h3 h4 h5 h6 h7 h8 h9 s.heap.size bg ln mt en sx pl ov tk na cu pa re cl si lt pg rd 4 _ ho_36) (cwV 1 ht (gi_V tw_3_110 tw_3_112 tw_p_16 tw_1_4 tw_3_113) rfl rfl rfl (by decide +kernel) ⟨Nat.le_of_ble_eq_true rfl, Nat.le_of_ble_eq_true rfl⟩) (jv_pv hK hP hD [0, 1, 2, 3, 4, 5, 6, 7, 8, 9] rfl (by decide) rfl (va_recv hK hP (ci := 6) (q0 := 0) rfl rfl)) rfl rfl hl.1 rfl (lv_room (Nat.le_of_ble_eq_true rfl)) dd_M_open_36 ⟨Nat.le_of_ble_eq_true rfl, Nat.le_of_ble_eq_true rfl⟩) hP hD hS hA [0, 1, 2, 3, 4, 5, 6, 7, 8, 9] [] rfl rfl (by decide) (by decide) (fun H_15 locs_16 hP hD hS => ?_)
        have hP : va_P (dC, dI) vwCl [(h0, .inr (6, [.int o_36.2.1, .ref h1, .ref h2, .ref h3, .ref h4, .ref h5, .ref h6, .ref h7, .int ln, .ref h8, .int mt, .int en, .int sx, .int pl, .int ov, .int tk, .ref h9])), (h1, .inl (cC, 6, .inl na)), (h2, .inl (cI, 2, .inl o_36.2.2.1)), (h3, .inl (cI, 48, .inl o_36.2.2.2.1)), (h4, .inl (cI, 48, .inl o_36.2.2.2.2.1)), (h5, .inl (cZ, 48, .inl o_36.2.2.2.2.2.1)), (h6, .inl (cI, 48, .inl o_36.2.2.2.2.2.2.1)), (h7, .inl (cC, 288, .inl o_36.2.2.2.2.2.2.2)), (h8, .inl (cC, 3000, .inl pg)), (h9, .inl (cC, 6, .inl rd))] H_15 := hP.sub [0, 1, 2, 3, 4, 5, 6, 7, 8, 9] rfl
        have hD : va_D A [(h0, .inr (6, [.int o_36.2.1, .ref h1, .ref h2, .ref h3, .ref h4, .ref h5, .ref h6, .ref h7, .int ln, .ref h8, .int mt, .int en, .int sx, .int pl, .int ov, .int tk, .ref h9])), (h1, .inl (cC, 6, .inl na)), (h2, .inl (cI, 2, .inl o_36.2.2.1)), (h3, .inl (cI, 48, .inl o_36.2.2.2.1)), (h4, .inl (cI, 48, .inl o_36.2.2.2.2.1)), (h5, .inl (cZ, 48, .inl o_36.2.2.2.2.2.1)), (h6, .inl (cI, 48, .inl o_36.2.2.2.2.2.2.1)), (h7, .inl (cC, 288, .inl o_36.2.2.2.2.2.2.2)), (h8, .inl (cC, 3000, .inl pg)), (h9, .inl (cC, 6, .inl rd))] := hD.sub [0, 1, 2, 3, 4, 5, 6, 7, 8, 9] (by decide) rfl
        subst hQ
        obtain rfl := Option.some.inj hF
        exact W.iret (v := o_36.1) hx hb hr (fun t ht hW => ⟨⟨o_36.1, (), rfl, rfl, by rw [ht]; exact hP, va_K.moved hW.alike hK, hD⟩, hS.F ht⟩) hS.2.2 dd_M_open_39
      · have hF := jv_t c_14 hF
        refine lv_bipush (v := (-2)) hx hb dd_M_open_31 (by decide) ?_
        subst hQ
        obtain rfl := Option.some.inj hF
        exact W.iret (v := (-2)) hx hb hr (fun t ht hW => ⟨⟨(-2), (), rfl, rfl, by rw [ht]; exact hP, va_K.moved hW.alike hK, hD⟩, hS.F ht⟩) hS.2.2 dd_M_open_33
set_option maxHeartbeats 40000000 in
set_option maxRecDepth 100000 in
theorem c_M_close (l : Launch) (dC : Nat → ClassId) (dI : Nat → Nat → Nat) (cI cL cC cZ : ClassId) (h0 h1 h2 h3 h4 h5 h6 h7 h8 h9 : Nat) (sz : Nat) (bg : Int32) (ln : Int32) (mt : Int32) (en : Int32) (sx : Int32) (pl : Int32) (ov : Int32) (tk : Int32) (na : Nat → Int32) (cu : Nat → Int32) (pa : Nat → Int32) (re : Nat → Int32) (cl : Nat → Int32) (si : Nat → Int32) (lt : Nat → Int32) (pg : Nat → Int32) (rd : Nat → Int32)  (out : Int32 × (Nat → Int32)) (hF : fn_M_close cu re cl = some out) : Met l yy_M_close ws_M_close { frames := 1, cells := 0, slots := 0, locals := 23 } (mP_ (dC, dI) (tk_ cI cL cC cZ) [(h0, .inr (6, [.int bg, .ref h1, .ref h2, .ref h3, .ref h4, .ref h5, .ref h6, .ref h7, .int ln, .ref h8, .int mt, .int en, .int sx, .int pl, .int ov, .int tk, .ref h9])), (h1, .inl (cC, 6, .inl na)), (h2, .inl (cI, 2, .inl cu)), (h3, .inl (cI, 48, .inl pa)), (h4, .inl (cI, 48, .inl re)), (h5, .inl (cZ, 48, .inl cl)), (h6, .inl (cI, 48, .inl si)), (h7, .inl (cC, 288, .inl lt)), (h8, .inl (cC, 3000, .inl pg)), (h9, .inl (cC, 6, .inl rd))] sz [.ref h0]) (va_Qi (fun r (_ : Unit) => r = out.1) (mB_ (dC, dI) (tk_ cI cL cC cZ) [(h0, .inr (6, [.int bg, .ref h1, .ref h2, .ref h3, .ref h4, .ref h5, .ref h6, .ref h7, .int ln, .ref h8, .int mt, .int en, .int sx, .int pl, .int ov, .int tk, .ref h9])), (h1, .inl (cC, 6, .inl na)), (h2, .inl (cI, 2, .inl cu)), (h3, .inl (cI, 48, .inl pa)), (h4, .inl (cI, 48, .inl re)), (h5, .inl (cZ, 48, .inl out.2)), (h6, .inl (cI, 48, .inl si)), (h7, .inl (cC, 288, .inl lt)), (h8, .inl (cC, 3000, .inl pg)), (h9, .inl (cC, 6, .inl rd))] (va_A [(h0, .inr (6, [.int bg, .ref h1, .ref h2, .ref h3, .ref h4, .ref h5, .ref h6, .ref h7, .int ln, .ref h8, .int mt, .int en, .int sx, .int pl, .int ov, .int tk, .ref h9])), (h1, .inl (cC, 6, .inl na)), (h2, .inl (cI, 2, .inl cu)), (h3, .inl (cI, 48, .inl pa)), (h4, .inl (cI, 48, .inl re)), (h5, .inl (cZ, 48, .inl cl)), (h6, .inl (cI, 48, .inl si)), (h7, .inl (cC, 288, .inl lt)), (h8, .inl (cC, 3000, .inl pg)), (h9, .inl (cC, 6, .inl rd))] sz)) (va_A [(h0, .inr (6, [.int bg, .ref h1, .ref h2, .ref h3, .ref h4, .ref h5, .ref h6, .ref h7, .int ln, .ref h8, .int mt, .int en, .int sx, .int pl, .int ov, .int tk, .ref h9])), (h1, .inl (cC, 6, .inl na)), (h2, .inl (cI, 2, .inl cu)), (h3, .inl (cI, 48, .inl pa)), (h4, .inl (cI, 48, .inl re)), (h5, .inl (cZ, 48, .inl cl)), (h6, .inl (cI, 48, .inl si)), (h7, .inl (cC, 288, .inl lt)), (h8, .inl (cC, 3000, .inl pg)), (h9, .inl (cC, 6, .inl rd))] sz)) 0 0 (va_A [(h0, .inr (6, [.int bg, .ref h1, .ref h2, .ref h3, .ref h4, .ref h5, .ref h6, .ref h7, .int ln, .ref h8, .int mt, .int en, .int sx, .int pl, .int ov, .int tk, .ref h9])), (h1, .inl (cC, 6, .inl na)), (h2, .inl (cI, 2, .inl cu)), (h3, .inl (cI, 48, .inl pa)), (h4, .inl (cI, 48, .inl re)), (h5, .inl (cZ, 48, .inl cl)), (h6, .inl (cI, 48, .inl si)), (h7, .inl (cC, 288, .inl lt)), (h8, .inl (cC, 3000, .inl pg)), (h9, .inl (cC, 6, .inl rd))] sz) := by
  refine Met.ofW (cc := cc_M_close) (maxL := 2) (ret := (some .boolean)) (by decide) rfl ?_
  intro p e s m args below meth c s₁ B hml hv
  obtain ⟨hargs, hsz, hP, hK, hD0⟩ := hv
  have hx := B.exec
  have hb := B.bytes
  have hr := B.returns
  have hts := atoms_spec (ws := ws_M_close) B.pre
  have ht : ∀ w ∈ TB_, w.before args s = true := fun w h => hts w (List.mem_cons_of_mem _ h)
  have hown : s.vm.findClass cn_M = some m.cls := findClass_of_methodNamed B.named
  have hlocks := B.notSynchronized
  subst hsz
  have hD := hD0.self (sz := s.heap.size)
  generalize hAe : va_A [(h0, .inr (6, [.int bg, .ref h1, .ref h2, .ref h3, .ref h4, .ref h5, .ref h6, .ref h7, .int ln, .ref h8, .int mt, .int en, .int sx, .int pl, .int ov, .int tk, .ref h9])), (h1, .inl (cC, 6, .inl na)), (h2, .inl (cI, 2, .inl cu)), (h3, .inl (cI, 48, .inl pa)), (h4, .inl (cI, 48, .inl re)), (h5, .inl (cZ, 48, .inl cl)), (h6, .inl (cI, 48, .inl si)), (h7, .inl (cC, 288, .inl lt)), (h8, .inl (cC, 3000, .inl pg)), (h9, .inl (cC, 6, .inl rd))] s.heap.size = A at hD ⊢
  have hA : ∀ q : Nat, s.heap.size ≤ q → A q := fun q h => by rw [← hAe]; exact Or.inr h
  have hS : va_S A s.heap s.heap [] := va_S.rf
  have hP : va_P (dC, dI) vwCl [(h0, .inr (6, [.int bg, .ref h1, .ref h2, .ref h3, .ref h4, .ref h5, .ref h6, .ref h7, .int ln, .ref h8, .int mt, .int en, .int sx, .int pl, .int ov, .int tk, .ref h9])), (h1, .inl (cC, 6, .inl na)), (h2, .inl (cI, 2, .inl cu)), (h3, .inl (cI, 48, .inl pa)), (h4, .inl (cI, 48, .inl re)), (h5, .inl (cZ, 48, .inl cl)), (h6, .inl (cI, 48, .inl si)), (h7, .inl (cC, 288, .inl lt)), (h8, .inl (cC, 3000, .inl pg)), (h9, .inl (cC, 6, .inl rd))] s.heap := hP
  have hl := lv_entry [.ref h0] (n := 2) (Nat.le_of_ble_eq_true rfl)
  have he : entryFrame m args 2 = _ := (congrArg (fun a => entryFrame m a 2) hargs).trans (lg_entry_eq m [.ref h0] 2)
  rw [he]
  generalize (lg_sl [.ref h0] ++ List.replicate (2 - (lg_sl [.ref h0]).length) Slot.unset).toArray = ls at hl ⊢
  have hl : lv_has ls 2 [(0, .ref h0)] := hl
  generalize hQ : MQ below _ args s _ _ _ = Q
  unfold fn_M_close at hF
  refine lv_aload_n hx hb dd_M_close_0 rfl (lv_at hl 0 rfl) ?_
  refine lv_iconst (v := 0) hx hb dd_M_close_1 (by decide) ?_
  obtain ⟨o_2, ho_2, hF⟩ := jv_bi hF
  refine jv_ci (va_runV (C := cn_M) (As := [.int 0]) (rest := []) ⟨hx, hb, hml, hown, ht⟩ (c_M_innermost l dC dI cI cL cC cZ h0 h1 h2 h3 h4 h5 h6 h7 h8 h9 s.heap.size bg ln mt en sx pl ov tk na cu pa re cl si lt pg rd 0 _ ho_2) (cwV 1 ht (gi_V tw_3_102 tw_3_104 tw_p_14 tw_1_4 tw_3_105) rfl rfl rfl (by decide +kernel) ⟨Nat.le_of_ble_eq_true rfl, Nat.le_of_ble_eq_true rfl⟩) (jv_pv hK hP hD [0, 1, 2, 3, 4, 5, 6, 7, 8, 9] rfl (by decide) rfl (va_recv hK hP (ci := 6) (q0 := 0) rfl rfl)) rfl rfl hl.1 rfl (lv_room (Nat.le_of_ble_eq_true rfl)) dd_M_close_2 ⟨Nat.le_of_ble_eq_true rfl, Nat.le_of_ble_eq_true rfl⟩) ?_
  refine lv_istore_n (lv' := [(1, .int o_2), (0, .ref h0)]) hx hb dd_M_close_5 rfl hl (by decide) rfl (fun ls hl => ?_)
  refine lv_iload_n hx hb dd_M_close_6 rfl (lv_at hl 0 rfl) ?_
  refine lv_if_ge (tgt := 12) hx hb dd_M_close_7 (by decide) (fun c_5 => ?_) (fun c_5 => ?_)
  · have hF := jv_t c_5 hF
    refine lv_aload_n hx hb dd_M_close_12 rfl (lv_at hl 1 rfl) ?_
    refine va_get (D := (dC, dI)) (ci := 6) (v := .ref h5) (C := cn_M) (T := tt_M) (N := 17) hx hb ht in_M hown hK hP 0 rfl rfl 5 (by decide) (ht _ tw_3_46) (fun _ h9 => h9) rfl dd_M_close_13 ?_
    refine lv_iload_n hx hb dd_M_close_16 rfl (lv_at hl 0 rfl) ?_
    refine lv_iconst (v := 1) hx hb dd_M_close_17 (by decide) ?_
    obtain ⟨g_6, hF⟩ := jv_gi hF
    refine va_zast hx hb hK hP hD hS 5 3 rfl rfl (jv_in g_6) dd_M_close_18 (fun H_7 locs_8 hP hD hS => ?_)
    have hP : va_P (dC, dI) vwCl [(h0, .inr (6, [.int bg, .ref h1, .ref h2, .ref h3, .ref h4, .ref h5, .ref h6, .ref h7, .int ln, .ref h8, .int mt, .int en, .int sx, .int pl, .int ov, .int tk, .ref h9])), (h1, .inl (cC, 6, .inl na)), (h2, .inl (cI, 2, .inl cu)), (h3, .inl (cI, 48, .inl pa)), (h4, .inl (cI, 48, .inl re)), (h5, .inl (cZ, 48, .inl (upd cl o_2.toNatClampNeg (vp_nar .boolean 1)))), (h6, .inl (cI, 48, .inl si)), (h7, .inl (cC, 288, .inl lt)), (h8, .inl (cC, 3000, .inl pg)), (h9, .inl (cC, 6, .inl rd))] H_7 := hP
    have hD : va_D A [(h0, .inr (6, [.int bg, .ref h1, .ref h2, .ref h3, .ref h4, .ref h5, .ref h6, .ref h7, .int ln, .ref h8, .int mt, .int en, .int sx, .int pl, .int ov, .int tk, .ref h9])), (h1, .inl (cC, 6, .inl na)), (h2, .inl (cI, 2, .inl cu)), (h3, .inl (cI, 48, .inl pa)), (h4, .inl (cI, 48, .inl re)), (h5, .inl (cZ, 48, .inl (upd cl o_2.toNatClampNeg (vp_nar .boolean 1)))), (h6, .inl (cI, 48, .inl si)), (h7, .inl (cC, 288, .inl lt)), (h8, .inl (cC, 3000, .inl pg)), (h9, .inl (cC, 6, .inl rd))] := hD
    refine lv_iconst (v := 1) hx hb dd_M_close_19 (by decide) ?_
    subst hQ
    obtain rfl := Option.some.inj hF
    exact W.zret (v := 1) hx hb hr rfl (fun t ht hW => ⟨⟨1, (), rfl, rfl, by rw [ht]; exact hP, va_K.moved hW.alike hK, hD⟩, hS.F ht⟩) hS.2.2 dd_M_close_20
  · have hF := jv_f c_5 hF
    refine lv_iconst (v := 0) hx hb dd_M_close_10 (by decide) ?_
    subst hQ
    obtain rfl := Option.some.inj hF
    exact W.zret (v := 0) hx hb hr rfl (fun t ht hW => ⟨⟨0, (), rfl, rfl, by rw [ht]; exact hP, va_K.moved hW.alike hK, hD⟩, hS.F ht⟩) hS.2.2 dd_M_close_11
set_option maxHeartbeats 40000000 in
set_option maxRecDepth 100000 in
theorem c_M_test (l : Launch) (dC : Nat → ClassId) (dI : Nat → Nat → Nat) (cI cL cC cZ : ClassId) (h0 h1 h2 h3 h4 h5 h6 h7 h8 h9 : Nat) (sz : Nat) (bg : Int32) (ln : Int32) (mt : Int32) (en : Int32) (sx : Int32) (pl : Int32) (ov : Int32) (tk : Int32) (na : Nat → Int32) (cu : Nat → Int32) (pa : Nat → Int32) (re : Nat → Int32) (cl : Nat → Int32) (si : Nat → Int32) (lt : Nat → Int32) (pg : Nat → Int32) (rd : Nat → Int32) (x1 : Int32) (out : Int32 × Int32 × (Nat → Int32) × (Nat → Int32) × (Nat → Int32) × (Nat → Int32) × (Nat → Int32) × (Nat → Int32)) (hF : fn_M_test na bg cu pa re cl si lt x1 = some out) : Met l yy_M_test ws_M_test { frames := 3, cells := 0, slots := 0, locals := 70 } (mP_ (dC, dI) (tk_ cI cL cC cZ) [(h0, .inr (6, [.int bg, .ref h1, .ref h2, .ref h3, .ref h4, .ref h5, .ref h6, .ref h7, .int ln, .ref h8, .int mt, .int en, .int sx, .int pl, .int ov, .int tk, .ref h9])), (h1, .inl (cC, 6, .inl na)), (h2, .inl (cI, 2, .inl cu)), (h3, .inl (cI, 48, .inl pa)), (h4, .inl (cI, 48, .inl re)), (h5, .inl (cZ, 48, .inl cl)), (h6, .inl (cI, 48, .inl si)), (h7, .inl (cC, 288, .inl lt)), (h8, .inl (cC, 3000, .inl pg)), (h9, .inl (cC, 6, .inl rd))] sz [.ref h0, .int x1]) (va_Qi (fun r (_ : Unit) => r = out.1) (mB_ (dC, dI) (tk_ cI cL cC cZ) [(h0, .inr (6, [.int out.2.1, .ref h1, .ref h2, .ref h3, .ref h4, .ref h5, .ref h6, .ref h7, .int ln, .ref h8, .int mt, .int en, .int sx, .int pl, .int ov, .int tk, .ref h9])), (h1, .inl (cC, 6, .inl na)), (h2, .inl (cI, 2, .inl out.2.2.1)), (h3, .inl (cI, 48, .inl out.2.2.2.1)), (h4, .inl (cI, 48, .inl out.2.2.2.2.1)), (h5, .inl (cZ, 48, .inl out.2.2.2.2.2.1)), (h6, .inl (cI, 48, .inl out.2.2.2.2.2.2.1)), (h7, .inl (cC, 288, .inl out.2.2.2.2.2.2.2)), (h8, .inl (cC, 3000, .inl pg)), (h9, .inl (cC, 6, .inl rd))] (va_A [(h0, .inr (6, [.int bg, .ref h1, .ref h2, .ref h3, .ref h4, .ref h5, .ref h6, .ref h7, .int ln, .ref h8, .int mt, .int en, .int sx, .int pl, .int ov, .int tk, .ref h9])), (h1, .inl (cC, 6, .inl na)), (h2, .inl (cI, 2, .inl cu)), (h3, .inl (cI, 48, .inl pa)), (h4, .inl (cI, 48, .inl re)), (h5, .inl (cZ, 48, .inl cl)), (h6, .inl (cI, 48, .inl si)), (h7, .inl (cC, 288, .inl lt)), (h8, .inl (cC, 3000, .inl pg)), (h9, .inl (cC, 6, .inl rd))] sz)) (va_A [(h0, .inr (6, [.int bg, .ref h1, .ref h2, .ref h3, .ref h4, .ref h5, .ref h6, .ref h7, .int ln, .ref h8, .int mt, .int en, .int sx, .int pl, .int ov, .int tk, .ref h9])), (h1, .inl (cC, 6, .inl na)), (h2, .inl (cI, 2, .inl cu)), (h3, .inl (cI, 48, .inl pa)), (h4, .inl (cI, 48, .inl re)), (h5, .inl (cZ, 48, .inl cl)), (h6, .inl (cI, 48, .inl si)), (h7, .inl (cC, 288, .inl lt)), (h8, .inl (cC, 3000, .inl pg)), (h9, .inl (cC, 6, .inl rd))] sz)) 0 0 (va_A [(h0, .inr (6, [.int bg, .ref h1, .ref h2, .ref h3, .ref h4, .ref h5, .ref h6, .ref h7, .int ln, .ref h8, .int mt, .int en, .int sx, .int pl, .int ov, .int tk, .ref h9])), (h1, .inl (cC, 6, .inl na)), (h2, .inl (cI, 2, .inl cu)), (h3, .inl (cI, 48, .inl pa)), (h4, .inl (cI, 48, .inl re)), (h5, .inl (cZ, 48, .inl cl)), (h6, .inl (cI, 48, .inl si)), (h7, .inl (cC, 288, .inl lt)), (h8, .inl (cC, 3000, .inl pg)), (h9, .inl (cC, 6, .inl rd))] sz) := by
  refine Met.ofW (cc := cc_M_test) (maxL := 2) (ret := (some .int)) (by decide) rfl ?_
  intro p e s m args below meth c s₁ B hml hv
  obtain ⟨hargs, hsz, hP, hK, hD0⟩ := hv
  have hx := B.exec
  have hb := B.bytes
  have hr := B.returns
  have hts := atoms_spec (ws := ws_M_test) B.pre
  have ht : ∀ w ∈ TB_, w.before args s = true := fun w h => hts w (List.mem_cons_of_mem _ h)
  have hown : s.vm.findClass cn_M = some m.cls := findClass_of_methodNamed B.named
  have hlocks := B.notSynchronized
  subst hsz
  have hD := hD0.self (sz := s.heap.size)
  generalize hAe : va_A [(h0, .inr (6, [.int bg, .ref h1, .ref h2, .ref h3, .ref h4, .ref h5, .ref h6, .ref h7, .int ln, .ref h8, .int mt, .int en, .int sx, .int pl, .int ov, .int tk, .ref h9])), (h1, .inl (cC, 6, .inl na)), (h2, .inl (cI, 2, .inl cu)), (h3, .inl (cI, 48, .inl pa)), (h4, .inl (cI, 48, .inl re)), (h5, .inl (cZ, 48, .inl cl)), (h6, .inl (cI, 48, .inl si)), (h7, .inl (cC, 288, .inl lt)), (h8, .inl (cC, 3000, .inl pg)), (h9, .inl (cC, 6, .inl rd))] s.heap.size = A at hD ⊢
  have hA : ∀ q : Nat, s.heap.size ≤ q → A q := fun q h => by rw [← hAe]; exact Or.inr h
  have hS : va_S A s.heap s.heap [] := va_S.rf
  have hP : va_P (dC, dI) vwCl [(h0, .inr (6, [.int bg, .ref h1, .ref h2, .ref h3, .ref h4, .ref h5, .ref h6, .ref h7, .int ln, .ref h8, .int mt, .int en, .int sx, .int pl, .int ov, .int tk, .ref h9])), (h1, .inl (cC, 6, .inl na)), (h2, .inl (cI, 2, .inl cu)), (h3, .inl (cI, 48, .inl pa)), (h4, .inl (cI, 48, .inl re)), (h5, .inl (cZ, 48, .inl cl)), (h6, .inl (cI, 48, .inl si)), (h7, .inl (cC, 288, .inl lt)), (h8, .inl (cC, 3000, .inl pg)), (h9, .inl (cC, 6, .inl rd))] s.heap := hP
  have hl := lv_entry [.ref h0, .int x1] (n := 2) (Nat.le_of_ble_eq_true rfl)
  have he : entryFrame m args 2 = _ := (congrArg (fun a => entryFrame m a 2) hargs).trans (lg_entry_eq m [.ref h0, .int x1] 2)
  rw [he]
  generalize (lg_sl [.ref h0, .int x1] ++ List.replicate (2 - (lg_sl [.ref h0, .int x1]).length) Slot.unset).toArray = ls at hl ⊢
  have hl : lv_has ls 2 [(0, .ref h0), (1, .int x1)] := hl
  generalize hQ : MQ below _ args s _ _ _ = Q
  unfold fn_M_test at hF
  refine lv_iload_n hx hb dd_M_test_0 rfl (lv_at hl 1 rfl) ?_
  refine lv_if_lt (tgt := 9) hx hb dd_M_test_1 (by decide) (fun c_7 => ?_) (fun c_7 => ?_)
  · have hF := jv_t c_7 hF
    refine lv_iconst (v := (-1)) hx hb dd_M_test_9 (by decide) ?_
    subst hQ
    obtain rfl := Option.some.inj hF
    exact W.iret (v := (-1)) hx hb hr (fun t ht hW => ⟨⟨(-1), (), rfl, rfl, by rw [ht]; exact hP, va_K.moved hW.alike hK, hD⟩, hS.F ht⟩) hS.2.2 dd_M_test_10
  · have hF := jv_f c_7 hF
    refine lv_iload_n hx hb dd_M_test_4 rfl (lv_at hl 1 rfl) ?_
    refine lv_iconst (v := 3) hx hb dd_M_test_5 (by decide) ?_
    refine lv_icmp_le (tgt := 11) hx hb dd_M_test_6 (by decide) (fun c_8 => ?_) (fun c_8 => ?_)
    · have hF := jv_t c_8 hF
      refine lv_aload_n hx hb dd_M_test_11 rfl (lv_at hl 0 rfl) ?_
      refine va_get (D := (dC, dI)) (ci := 6) (v := .ref h2) (C := cn_M) (T := tt_M) (N := 17) hx hb ht in_M hown hK hP 0 rfl rfl 2 (by decide) (ht _ tw_3_43) (fun _ h9 => h9) rfl dd_M_test_12 ?_
      refine lv_iconst (v := 0) hx hb dd_M_test_15 (by decide) ?_
      obtain ⟨g_9, hF⟩ := jv_gi hF
      refine va_iald hx hb hK hP 2 0 rfl rfl (jv_in g_9) dd_M_test_16 ?_
      refine lv_bipush (v := 24) hx hb dd_M_test_17 (by decide) ?_
      refine lv_icmp_ne (tgt := 27) hx hb dd_M_test_19 (by decide) (fun c_10 => ?_) (fun c_10 => ?_)
      · have hF := jv_f c_10 hF
        refine lv_aload_n hx hb dd_M_test_27 rfl (lv_at hl 0 rfl) ?_
        refine lv_iload_n hx hb dd_M_test_28 rfl (lv_at hl 1 rfl) ?_
        obtain ⟨o_29, ho_29, hF⟩ := jv_bi hF
        refine jv_mi (wr := []) (w1 := [(h0, .inr (6, [.int o_29.2.1, .ref h1, .ref h2, .ref h3, .ref h4, .ref h5, .ref h6, .ref h7, .int ln, .ref h8, .int mt, .int en, .int sx, .int pl, .int ov, .int tk, .ref h9])), (h1, .inl (cC, 6, .inl na)), (h2, .inl (cI, 2, .inl o_29.2.2.1)), (h3, .inl (cI, 48, .inl o_29.2.2.2.1)), (h4, .inl (cI, 48, .inl o_29.2.2.2.2.1)), (h5, .inl (cZ, 48, .inl o_29.2.2.2.2.2.1)), (h6, .inl (cI, 48, .inl o_29.2.2.2.2.2.2.1)), (h7, .inl (cC, 288, .inl o_29.2.2.2.2.2.2.2)), (h8, .inl (cC, 3000, .inl pg)), (h9, .inl (cC, 6, .inl rd))]) (va_runV (C := cn_M) (As := [.int x1]) (rest := []) ⟨hx, hb, hml, hown, ht⟩ (c_M_addNamed l dC dI cI cL cC cZ h0 h1 h2 h3 h4 h5 h6 h7 h8 h9 s.heap.size bg ln mt en sx pl ov tk na cu pa re cl si lt pg rd x1 _ ho_29) (cwV 1 ht (gi_V tw_3_110 tw_3_112 tw_p_16 tw_1_4 tw_3_113) rfl rfl rfl (by decide +kernel) ⟨Nat.le_of_ble_eq_true rfl, Nat.le_of_ble_eq_true rfl⟩) (jv_pv hK hP hD [0, 1, 2, 3, 4, 5, 6, 7, 8, 9] rfl (by decide) rfl (va_recv hK hP (ci := 6) (q0 := 0) rfl rfl)) rfl rfl hl.1 rfl (lv_room (Nat.le_of_ble_eq_true rfl)) dd_M_test_29 ⟨Nat.le_of_ble_eq_true rfl, Nat.le_of_ble_eq_true rfl⟩) hP hD hS hA [0, 1, 2, 3, 4, 5, 6, 7, 8, 9] [] rfl rfl (by decide) (by decide) (fun H_11 locs_12 hP hD hS => ?_)
        have hP : va_P (dC, dI) vwCl [(h0, .inr (6, [.int o_29.2.1, .ref h1, .ref h2, .ref h3, .ref h4, .ref h5, .ref h6, .ref h7, .int ln, .ref h8, .int mt, .int en, .int sx, .int pl, .int ov, .int tk, .ref h9])), (h1, .inl (cC, 6, .inl na)), (h2, .inl (cI, 2, .inl o_29.2.2.1)), (h3, .inl (cI, 48, .inl o_29.2.2.2.1)), (h4, .inl (cI, 48, .inl o_29.2.2.2.2.1)), (h5, .inl (cZ, 48, .inl o_29.2.2.2.2.2.1)), (h6, .inl (cI, 48, .inl o_29.2.2.2.2.2.2.1)), (h7, .inl (cC, 288, .inl o_29.2.2.2.2.2.2.2)), (h8, .inl (cC, 3000, .inl pg)), (h9, .inl (cC, 6, .inl rd))] H_11 := hP.sub [0, 1, 2, 3, 4, 5, 6, 7, 8, 9] rfl
        have hD : va_D A [(h0, .inr (6, [.int o_29.2.1, .ref h1, .ref h2, .ref h3, .ref h4, .ref h5, .ref h6, .ref h7, .int ln, .ref h8, .int mt, .int en, .int sx, .int pl, .int ov, .int tk, .ref h9])), (h1, .inl (cC, 6, .inl na)), (h2, .inl (cI, 2, .inl o_29.2.2.1)), (h3, .inl (cI, 48, .inl o_29.2.2.2.1)), (h4, .inl (cI, 48, .inl o_29.2.2.2.2.1)), (h5, .inl (cZ, 48, .inl o_29.2.2.2.2.2.1)), (h6, .inl (cI, 48, .inl o_29.2.2.2.2.2.2.1)), (h7, .inl (cC, 288, .inl o_29.2.2.2.2.2.2.2)), (h8, .inl (cC, 3000, .inl pg)), (h9, .inl (cC, 6, .inl rd))] := hD.sub [0, 1, 2, 3, 4, 5, 6, 7, 8, 9] (by decide) rfl
        subst hQ
        obtain rfl := Option.some.inj hF
        exact W.iret (v := o_29.1) hx hb hr (fun t ht hW => ⟨⟨o_29.1, (), rfl, rfl, by rw [ht]; exact hP, va_K.moved hW.alike hK, hD⟩, hS.F ht⟩) hS.2.2 dd_M_test_32
      · have hF := jv_t c_10 hF
        refine lv_bipush (v := (-2)) hx hb dd_M_test_22 (by decide) ?_
        refine lv_goto (tgt := 32) hx hb dd_M_test_24 (by decide) ?_
        subst hQ
        obtain rfl := Option.some.inj hF
        exact W.iret (v := (-2)) hx hb hr (fun t ht hW => ⟨⟨(-2), (), rfl, rfl, by rw [ht]; exact hP, va_K.moved hW.alike hK, hD⟩, hS.F ht⟩) hS.2.2 dd_M_test_32
    · have hF := jv_f c_8 hF
      refine lv_iconst (v := (-1)) hx hb dd_M_test_9 (by decide) ?_
      subst hQ
      obtain rfl := Option.some.inj hF
      exact W.iret (v := (-1)) hx hb hr (fun t ht hW => ⟨⟨(-1), (), rfl, rfl, by rw [ht]; exact hP, va_K.moved hW.alike hK, hD⟩, hS.F ht⟩) hS.2.2 dd_M_test_10
set_option maxHeartbeats 40000000 in
set_option maxRecDepth 100000 in
theorem c_M_reset (l : Launch) (dC : Nat → ClassId) (dI : Nat → Nat → Nat) (cI cL cC cZ : ClassId) (h0 h1 h2 h3 h4 h5 h6 h7 h8 h9 : Nat) (sz : Nat) (bg : Int32) (ln : Int32) (mt : Int32) (en : Int32) (sx : Int32) (pl : Int32) (ov : Int32) (tk : Int32) (na : Nat → Int32) (cu : Nat → Int32) (pa : Nat → Int32) (re : Nat → Int32) (cl : Nat → Int32) (si : Nat → Int32) (lt : Nat → Int32) (pg : Nat → Int32) (rd : Nat → Int32)  (out : (Nat → Int32)) (hF : fn_M_reset cu = some out) : Met l yy_M_reset ws_M_reset { frames := 0, cells := 0, slots := 0, locals := 0 } (mP_ (dC, dI) (tk_ cI cL cC cZ) [(h0, .inr (6, [.int bg, .ref h1, .ref h2, .ref h3, .ref h4, .ref h5, .ref h6, .ref h7, .int ln, .ref h8, .int mt, .int en, .int sx, .int pl, .int ov, .int tk, .ref h9])), (h1, .inl (cC, 6, .inl na)), (h2, .inl (cI, 2, .inl cu)), (h3, .inl (cI, 48, .inl pa)), (h4, .inl (cI, 48, .inl re)), (h5, .inl (cZ, 48, .inl cl)), (h6, .inl (cI, 48, .inl si)), (h7, .inl (cC, 288, .inl lt)), (h8, .inl (cC, 3000, .inl pg)), (h9, .inl (cC, 6, .inl rd))] sz [.ref h0]) (va_Qv (fun _ : Unit => True) (mB_ (dC, dI) (tk_ cI cL cC cZ) [(h0, .inr (6, [.int bg, .ref h1, .ref h2, .ref h3, .ref h4, .ref h5, .ref h6, .ref h7, .int ln, .ref h8, .int mt, .int en, .int sx, .int pl, .int ov, .int tk, .ref h9])), (h1, .inl (cC, 6, .inl na)), (h2, .inl (cI, 2, .inl out)), (h3, .inl (cI, 48, .inl pa)), (h4, .inl (cI, 48, .inl re)), (h5, .inl (cZ, 48, .inl cl)), (h6, .inl (cI, 48, .inl si)), (h7, .inl (cC, 288, .inl lt)), (h8, .inl (cC, 3000, .inl pg)), (h9, .inl (cC, 6, .inl rd))] (va_A [(h0, .inr (6, [.int bg, .ref h1, .ref h2, .ref h3, .ref h4, .ref h5, .ref h6, .ref h7, .int ln, .ref h8, .int mt, .int en, .int sx, .int pl, .int ov, .int tk, .ref h9])), (h1, .inl (cC, 6, .inl na)), (h2, .inl (cI, 2, .inl cu)), (h3, .inl (cI, 48, .inl pa)), (h4, .inl (cI, 48, .inl re)), (h5, .inl (cZ, 48, .inl cl)), (h6, .inl (cI, 48, .inl si)), (h7, .inl (cC, 288, .inl lt)), (h8, .inl (cC, 3000, .inl pg)), (h9, .inl (cC, 6, .inl rd))] sz)) (va_A [(h0, .inr (6, [.int bg, .ref h1, .ref h2, .ref h3, .ref h4, .ref h5, .ref h6, .ref h7, .int ln, .ref h8, .int mt, .int en, .int sx, .int pl, .int ov, .int tk, .ref h9])), (h1, .inl (cC, 6, .inl na)), (h2, .inl (cI, 2, .inl cu)), (h3, .inl (cI, 48, .inl pa)), (h4, .inl (cI, 48, .inl re)), (h5, .inl (cZ, 48, .inl cl)), (h6, .inl (cI, 48, .inl si)), (h7, .inl (cC, 288, .inl lt)), (h8, .inl (cC, 3000, .inl pg)), (h9, .inl (cC, 6, .inl rd))] sz)) 0 0 (va_A [(h0, .inr (6, [.int bg, .ref h1, .ref h2, .ref h3, .ref h4, .ref h5, .ref h6, .ref h7, .int ln, .ref h8, .int mt, .int en, .int sx, .int pl, .int ov, .int tk, .ref h9])), (h1, .inl (cC, 6, .inl na)), (h2, .inl (cI, 2, .inl cu)), (h3, .inl (cI, 48, .inl pa)), (h4, .inl (cI, 48, .inl re)), (h5, .inl (cZ, 48, .inl cl)), (h6, .inl (cI, 48, .inl si)), (h7, .inl (cC, 288, .inl lt)), (h8, .inl (cC, 3000, .inl pg)), (h9, .inl (cC, 6, .inl rd))] sz) := by
  refine Met.ofW (cc := cc_M_reset) (maxL := 1) (ret := none) (by decide) rfl ?_
  intro p e s m args below meth c s₁ B hml hv
  obtain ⟨hargs, hsz, hP, hK, hD0⟩ := hv
  have hx := B.exec
  have hb := B.bytes
  have hr := B.returns
  have hts := atoms_spec (ws := ws_M_reset) B.pre
  have ht : ∀ w ∈ TB_, w.before args s = true := fun w h => hts w (List.mem_cons_of_mem _ h)
  have hown : s.vm.findClass cn_M = some m.cls := findClass_of_methodNamed B.named
  have hlocks := B.notSynchronized
  subst hsz
  have hD := hD0.self (sz := s.heap.size)
  generalize hAe : va_A [(h0, .inr (6, [.int bg, .ref h1, .ref h2, .ref h3, .ref h4, .ref h5, .ref h6, .ref h7, .int ln, .ref h8, .int mt, .int en, .int sx, .int pl, .int ov, .int tk, .ref h9])), (h1, .inl (cC, 6, .inl na)), (h2, .inl (cI, 2, .inl cu)), (h3, .inl (cI, 48, .inl pa)), (h4, .inl (cI, 48, .inl re)), (h5, .inl (cZ, 48, .inl cl)), (h6, .inl (cI, 48, .inl si)), (h7, .inl (cC, 288, .inl lt)), (h8, .inl (cC, 3000, .inl pg)), (h9, .inl (cC, 6, .inl rd))] s.heap.size = A at hD ⊢
  have hA : ∀ q : Nat, s.heap.size ≤ q → A q := fun q h => by rw [← hAe]; exact Or.inr h
  have hS : va_S A s.heap s.heap [] := va_S.rf
  have hP : va_P (dC, dI) vwCl [(h0, .inr (6, [.int bg, .ref h1, .ref h2, .ref h3, .ref h4, .ref h5, .ref h6, .ref h7, .int ln, .ref h8, .int mt, .int en, .int sx, .int pl, .int ov, .int tk, .ref h9])), (h1, .inl (cC, 6, .inl na)), (h2, .inl (cI, 2, .inl cu)), (h3, .inl (cI, 48, .inl pa)), (h4, .inl (cI, 48, .inl re)), (h5, .inl (cZ, 48, .inl cl)), (h6, .inl (cI, 48, .inl si)), (h7, .inl (cC, 288, .inl lt)), (h8, .inl (cC, 3000, .inl pg)), (h9, .inl (cC, 6, .inl rd))] s.heap := hP
  have hl := lv_entry [.ref h0] (n := 1) (Nat.le_of_ble_eq_true rfl)
  have he : entryFrame m args 1 = _ := (congrArg (fun a => entryFrame m a 1) hargs).trans (lg_entry_eq m [.ref h0] 1)
  rw [he]
  generalize (lg_sl [.ref h0] ++ List.replicate (1 - (lg_sl [.ref h0]).length) Slot.unset).toArray = ls at hl ⊢
  have hl : lv_has ls 1 [(0, .ref h0)] := hl
  generalize hQ : MQ below _ args s _ _ _ = Q
  unfold fn_M_reset at hF
  refine lv_aload_n hx hb dd_M_reset_0 rfl (lv_at hl 0 rfl) ?_
  refine va_get (D := (dC, dI)) (ci := 6) (v := .ref h2) (C := cn_M) (T := tt_M) (N := 17) hx hb ht in_M hown hK hP 0 rfl rfl 2 (by decide) (ht _ tw_3_43) (fun _ h9 => h9) rfl dd_M_reset_1 ?_
  refine lv_iconst (v := 0) hx hb dd_M_reset_4 (by decide) ?_
  refine lv_iconst (v := 0) hx hb dd_M_reset_5 (by decide) ?_
  obtain ⟨g_4, hF⟩ := jv_gi hF
  refine va_iast hx hb hK hP hD hS 2 0 rfl rfl (jv_in g_4) dd_M_reset_6 (fun H_5 locs_6 hP hD hS => ?_)
  have hP : va_P (dC, dI) vwCl [(h0, .inr (6, [.int bg, .ref h1, .ref h2, .ref h3, .ref h4, .ref h5, .ref h6, .ref h7, .int ln, .ref h8, .int mt, .int en, .int sx, .int pl, .int ov, .int tk, .ref h9])), (h1, .inl (cC, 6, .inl na)), (h2, .inl (cI, 2, .inl (upd cu (0 : Int32).toNatClampNeg 0))), (h3, .inl (cI, 48, .inl pa)), (h4, .inl (cI, 48, .inl re)), (h5, .inl (cZ, 48, .inl cl)), (h6, .inl (cI, 48, .inl si)), (h7, .inl (cC, 288, .inl lt)), (h8, .inl (cC, 3000, .inl pg)), (h9, .inl (cC, 6, .inl rd))] H_5 := hP
  have hD : va_D A [(h0, .inr (6, [.int bg, .ref h1, .ref h2, .ref h3, .ref h4, .ref h5, .ref h6, .ref h7, .int ln, .ref h8, .int mt, .int en, .int sx, .int pl, .int ov, .int tk, .ref h9])), (h1, .inl (cC, 6, .inl na)), (h2, .inl (cI, 2, .inl (upd cu (0 : Int32).toNatClampNeg 0))), (h3, .inl (cI, 48, .inl pa)), (h4, .inl (cI, 48, .inl re)), (h5, .inl (cZ, 48, .inl cl)), (h6, .inl (cI, 48, .inl si)), (h7, .inl (cC, 288, .inl lt)), (h8, .inl (cC, 3000, .inl pg)), (h9, .inl (cC, 6, .inl rd))] := hD
  subst hQ
  obtain rfl := Option.some.inj hF
  exact W.vret hx hb hr (fun t ht hW => ⟨⟨(), rfl, trivial, by rw [ht]; exact hP, va_K.moved hW.alike hK, hD⟩, hS.F ht⟩) hS.2.2 dd_M_reset_7
set_option maxHeartbeats 40000000 in
set_option maxRecDepth 100000 in
theorem c_M_nodes (l : Launch) (dC : Nat → ClassId) (dI : Nat → Nat → Nat) (cI cL cC cZ : ClassId) (h0 h1 h2 h3 h4 h5 h6 h7 h8 h9 : Nat) (sz : Nat) (bg : Int32) (ln : Int32) (mt : Int32) (en : Int32) (sx : Int32) (pl : Int32) (ov : Int32) (tk : Int32) (na : Nat → Int32) (cu : Nat → Int32) (pa : Nat → Int32) (re : Nat → Int32) (cl : Nat → Int32) (si : Nat → Int32) (lt : Nat → Int32) (pg : Nat → Int32) (rd : Nat → Int32)  (out : Int32) (hF : fn_M_nodes cu = some out) : Met l yy_M_nodes ws_M_nodes { frames := 0, cells := 0, slots := 0, locals := 0 } (mP_ (dC, dI) (tk_ cI cL cC cZ) [(h0, .inr (6, [.int bg, .ref h1, .ref h2, .ref h3, .ref h4, .ref h5, .ref h6, .ref h7, .int ln, .ref h8, .int mt, .int en, .int sx, .int pl, .int ov, .int tk, .ref h9])), (h1, .inl (cC, 6, .inl na)), (h2, .inl (cI, 2, .inl cu)), (h3, .inl (cI, 48, .inl pa)), (h4, .inl (cI, 48, .inl re)), (h5, .inl (cZ, 48, .inl cl)), (h6, .inl (cI, 48, .inl si)), (h7, .inl (cC, 288, .inl lt)), (h8, .inl (cC, 3000, .inl pg)), (h9, .inl (cC, 6, .inl rd))] sz [.ref h0]) (vp_Si (fun r => r = out)) 0 0 (fun _ => False) := by
  refine Met.ofW (cc := cc_M_nodes) (maxL := 1) (ret := (some .int)) (by decide) rfl ?_
  intro p e s m args below meth c s₁ B hml hv
  obtain ⟨hargs, hsz, hP, hK, hD0⟩ := hv
  have hx := B.exec
  have hb := B.bytes
  have hr := B.returns
  have hts := atoms_spec (ws := ws_M_nodes) B.pre
  have ht : ∀ w ∈ TB_, w.before args s = true := fun w h => hts w (List.mem_cons_of_mem _ h)
  have hown : s.vm.findClass cn_M = some m.cls := findClass_of_methodNamed B.named
  have hlocks := B.notSynchronized
  subst hsz
  have hD := hD0.self (sz := s.heap.size)
  generalize hAe : va_A [(h0, .inr (6, [.int bg, .ref h1, .ref h2, .ref h3, .ref h4, .ref h5, .ref h6, .ref h7, .int ln, .ref h8, .int mt, .int en, .int sx, .int pl, .int ov, .int tk, .ref h9])), (h1, .inl (cC, 6, .inl na)), (h2, .inl (cI, 2, .inl cu)), (h3, .inl (cI, 48, .inl pa)), (h4, .inl (cI, 48, .inl re)), (h5, .inl (cZ, 48, .inl cl)), (h6, .inl (cI, 48, .inl si)), (h7, .inl (cC, 288, .inl lt)), (h8, .inl (cC, 3000, .inl pg)), (h9, .inl (cC, 6, .inl rd))] s.heap.size = A at hD
  have hA : ∀ q : Nat, s.heap.size ≤ q → A q := fun q h => by rw [← hAe]; exact Or.inr h
  have hS : va_S A s.heap s.heap [] := va_S.rf
  have hP : va_P (dC, dI) vwCl [(h0, .inr (6, [.int bg, .ref h1, .ref h2, .ref h3, .ref h4, .ref h5, .ref h6, .ref h7, .int ln, .ref h8, .int mt, .int en, .int sx, .int pl, .int ov, .int tk, .ref h9])), (h1, .inl (cC, 6, .inl na)), (h2, .inl (cI, 2, .inl cu)), (h3, .inl (cI, 48, .inl pa)), (h4, .inl (cI, 48, .inl re)), (h5, .inl (cZ, 48, .inl cl)), (h6, .inl (cI, 48, .inl si)), (h7, .inl (cC, 288, .inl lt)), (h8, .inl (cC, 3000, .inl pg)), (h9, .inl (cC, 6, .inl rd))] s.heap := hP
  have hl := lv_entry [.ref h0] (n := 1) (Nat.le_of_ble_eq_true rfl)
  have he : entryFrame m args 1 = _ := (congrArg (fun a => entryFrame m a 1) hargs).trans (lg_entry_eq m [.ref h0] 1)
  rw [he]
  generalize (lg_sl [.ref h0] ++ List.replicate (1 - (lg_sl [.ref h0]).length) Slot.unset).toArray = ls at hl ⊢
  have hl : lv_has ls 1 [(0, .ref h0)] := hl
  generalize hQ : MQ below _ args s _ _ _ = Q
  unfold fn_M_nodes at hF
  refine lv_aload_n hx hb dd_M_nodes_0 rfl (lv_at hl 0 rfl) ?_
  refine va_get (D := (dC, dI)) (ci := 6) (v := .ref h2) (C := cn_M) (T := tt_M) (N := 17) hx hb ht in_M hown hK hP 0 rfl rfl 2 (by decide) (ht _ tw_3_43) (fun _ h9 => h9) rfl dd_M_nodes_1 ?_
  refine lv_iconst (v := 0) hx hb dd_M_nodes_4 (by decide) ?_
  obtain ⟨g_2, hF⟩ := jv_gi hF
  refine va_iald hx hb hK hP 2 0 rfl rfl (jv_in g_2) dd_M_nodes_5 ?_
  subst hQ
  exact W.iret (v := cu (0 : Int32).toNatClampNeg) hx hb hr (fun t ht hW => ⟨cu (0 : Int32).toNatClampNeg, rfl, (Option.some.inj hF), ht⟩) (fun _ h => by cases h) dd_M_nodes_6
set_option maxHeartbeats 40000000 in
set_option maxRecDepth 100000 in
theorem c_M_node (l : Launch) (dC : Nat → ClassId) (dI : Nat → Nat → Nat) (cI cL cC cZ : ClassId) (h0 h1 h2 h3 h4 h5 h6 h7 h8 h9 : Nat) (sz : Nat) (bg : Int32) (ln : Int32) (mt : Int32) (en : Int32) (sx : Int32) (pl : Int32) (ov : Int32) (tk : Int32) (na : Nat → Int32) (cu : Nat → Int32) (pa : Nat → Int32) (re : Nat → Int32) (cl : Nat → Int32) (si : Nat → Int32) (lt : Nat → Int32) (pg : Nat → Int32) (rd : Nat → Int32) (x1 : Int32) (out : Int32) (hF : fn_M_node cu x1 = some out) : Met l yy_M_node ws_M_node { frames := 0, cells := 0, slots := 0, locals := 0 } (mP_ (dC, dI) (tk_ cI cL cC cZ) [(h0, .inr (6, [.int bg, .ref h1, .ref h2, .ref h3, .ref h4, .ref h5, .ref h6, .ref h7, .int ln, .ref h8, .int mt, .int en, .int sx, .int pl, .int ov, .int tk, .ref h9])), (h1, .inl (cC, 6, .inl na)), (h2, .inl (cI, 2, .inl cu)), (h3, .inl (cI, 48, .inl pa)), (h4, .inl (cI, 48, .inl re)), (h5, .inl (cZ, 48, .inl cl)), (h6, .inl (cI, 48, .inl si)), (h7, .inl (cC, 288, .inl lt)), (h8, .inl (cC, 3000, .inl pg)), (h9, .inl (cC, 6, .inl rd))] sz [.ref h0, .int x1]) (vp_Si (fun r => r = out)) 0 0 (fun _ => False) := by
  refine Met.ofW (cc := cc_M_node) (maxL := 2) (ret := (some .boolean)) (by decide) rfl ?_
  intro p e s m args below meth c s₁ B hml hv
  obtain ⟨hargs, hsz, hP, hK, hD0⟩ := hv
  have hx := B.exec
  have hb := B.bytes
  have hr := B.returns
  have hts := atoms_spec (ws := ws_M_node) B.pre
  have ht : ∀ w ∈ TB_, w.before args s = true := fun w h => hts w (List.mem_cons_of_mem _ h)
  have hown : s.vm.findClass cn_M = some m.cls := findClass_of_methodNamed B.named
  have hlocks := B.notSynchronized
  subst hsz
  have hD := hD0.self (sz := s.heap.size)
  generalize hAe : va_A [(h0, .inr (6, [.int bg, .ref h1, .ref h2, .ref h3, .ref h4, .ref h5, .ref h6, .ref h7, .int ln, .ref h8, .int mt, .int en, .int sx, .int pl, .int ov, .int tk, .ref h9])), (h1, .inl (cC, 6, .inl na)), (h2, .inl (cI, 2, .inl cu)), (h3, .inl (cI, 48, .inl pa)), (h4, .inl (cI, 48, .inl re)), (h5, .inl (cZ, 48, .inl cl)), (h6, .inl (cI, 48, .inl si)), (h7, .inl (cC, 288, .inl lt)), (h8, .inl (cC, 3000, .inl pg)), (h9, .inl (cC, 6, .inl rd))] s.heap.size = A at hD
  have hA : ∀ q : Nat, s.heap.size ≤ q → A q := fun q h => by rw [← hAe]; exact Or.inr h
  have hS : va_S A s.heap s.heap [] := va_S.rf
  have hP : va_P (dC, dI) vwCl [(h0, .inr (6, [.int bg, .ref h1, .ref h2, .ref h3, .ref h4, .ref h5, .ref h6, .ref h7, .int ln, .ref h8, .int mt, .int en, .int sx, .int pl, .int ov, .int tk, .ref h9])), (h1, .inl (cC, 6, .inl na)), (h2, .inl (cI, 2, .inl cu)), (h3, .inl (cI, 48, .inl pa)), (h4, .inl (cI, 48, .inl re)), (h5, .inl (cZ, 48, .inl cl)), (h6, .inl (cI, 48, .inl si)), (h7, .inl (cC, 288, .inl lt)), (h8, .inl (cC, 3000, .inl pg)), (h9, .inl (cC, 6, .inl rd))] s.heap := hP
  have hl := lv_entry [.ref h0, .int x1] (n := 2) (Nat.le_of_ble_eq_true rfl)
  have he : entryFrame m args 2 = _ := (congrArg (fun a => entryFrame m a 2) hargs).trans (lg_entry_eq m [.ref h0, .int x1] 2)
  rw [he]
  generalize (lg_sl [.ref h0, .int x1] ++ List.replicate (2 - (lg_sl [.ref h0, .int x1]).length) Slot.unset).toArray = ls at hl ⊢
  have hl : lv_has ls 2 [(0, .ref h0), (1, .int x1)] := hl
  generalize hQ : MQ below _ args s _ _ _ = Q
  unfold fn_M_node at hF
  refine lv_iload_n hx hb dd_M_node_0 rfl (lv_at hl 1 rfl) ?_
  refine lv_if_lt (tgt := 18) hx hb dd_M_node_1 (by decide) (fun c_4 => ?_) (fun c_4 => ?_)
  · have hF := jv_t c_4 hF
    refine lv_iconst (v := 0) hx hb dd_M_node_18 (by decide) ?_
    subst hQ
    exact W.zret (v := 0) hx hb hr rfl (fun t ht hW => ⟨0, rfl, (Option.some.inj hF), ht⟩) (fun _ h => by cases h) dd_M_node_19
  · have hF := jv_f c_4 hF
    refine lv_iload_n hx hb dd_M_node_4 rfl (lv_at hl 1 rfl) ?_
    refine lv_aload_n hx hb dd_M_node_5 rfl (lv_at hl 0 rfl) ?_
    refine va_get (D := (dC, dI)) (ci := 6) (v := .ref h2) (C := cn_M) (T := tt_M) (N := 17) hx hb ht in_M hown hK hP 0 rfl rfl 2 (by decide) (ht _ tw_3_43) (fun _ h9 => h9) rfl dd_M_node_6 ?_
    refine lv_iconst (v := 0) hx hb dd_M_node_9 (by decide) ?_
    obtain ⟨g_5, hF⟩ := jv_gi hF
    refine va_iald hx hb hK hP 2 0 rfl rfl (jv_in g_5) dd_M_node_10 ?_
    refine lv_icmp_ge (tgt := 18) hx hb dd_M_node_11 (by decide) (fun c_6 => ?_) (fun c_6 => ?_)
    · have hF := jv_t c_6 hF
      refine lv_iconst (v := 0) hx hb dd_M_node_18 (by decide) ?_
      subst hQ
      exact W.zret (v := 0) hx hb hr rfl (fun t ht hW => ⟨0, rfl, (Option.some.inj hF), ht⟩) (fun _ h => by cases h) dd_M_node_19
    · have hF := jv_f c_6 hF
      refine lv_iconst (v := 1) hx hb dd_M_node_14 (by decide) ?_
      refine lv_goto (tgt := 19) hx hb dd_M_node_15 (by decide) ?_
      subst hQ
      exact W.zret (v := 1) hx hb hr rfl (fun t ht hW => ⟨1, rfl, (Option.some.inj hF), ht⟩) (fun _ h => by cases h) dd_M_node_19
set_option maxHeartbeats 40000000 in
set_option maxRecDepth 100000 in
theorem c_M_good (l : Launch) (dC : Nat → ClassId) (dI : Nat → Nat → Nat) (cI cL cC cZ : ClassId) (h0 h1 h2 h3 h4 h5 h6 h7 h8 h9 : Nat) (sz : Nat) (bg : Int32) (ln : Int32) (mt : Int32) (en : Int32) (sx : Int32) (pl : Int32) (ov : Int32) (tk : Int32) (na : Nat → Int32) (cu : Nat → Int32) (pa : Nat → Int32) (re : Nat → Int32) (cl : Nat → Int32) (si : Nat → Int32) (lt : Nat → Int32) (pg : Nat → Int32) (rd : Nat → Int32) (x1 : Int32) (x2 : Int32) (out : Int32) (hF : fn_M_good cu pa re x1 x2 = some out) : Met l yy_M_good ws_M_good { frames := 0, cells := 0, slots := 0, locals := 0 } (mP_ (dC, dI) (tk_ cI cL cC cZ) [(h0, .inr (6, [.int bg, .ref h1, .ref h2, .ref h3, .ref h4, .ref h5, .ref h6, .ref h7, .int ln, .ref h8, .int mt, .int en, .int sx, .int pl, .int ov, .int tk, .ref h9])), (h1, .inl (cC, 6, .inl na)), (h2, .inl (cI, 2, .inl cu)), (h3, .inl (cI, 48, .inl pa)), (h4, .inl (cI, 48, .inl re)), (h5, .inl (cZ, 48, .inl cl)), (h6, .inl (cI, 48, .inl si)), (h7, .inl (cC, 288, .inl lt)), (h8, .inl (cC, 3000, .inl pg)), (h9, .inl (cC, 6, .inl rd))] sz [.ref h0, .int x1, .int x2]) (vp_Si (fun r => r = out)) 0 0 (fun _ => False) := by
  refine Met.ofW (cc := cc_M_good) (maxL := 7) (ret := (some .boolean)) (by decide) rfl ?_
  intro p e s m args below meth c s₁ B hml hv
  obtain ⟨hargs, hsz, hP, hK, hD0⟩ := hv
  have hx := B.exec
  have hb := B.bytes
  have hr := B.returns
  have hts := atoms_spec (ws := ws_M_good) B.pre
  have ht : ∀ w ∈ TB_, w.before args s = true := fun w h => hts w (List.mem_cons_of_mem _ h)
  have hown : s.vm.findClass cn_M = some m.cls := findClass_of_methodNamed B.named
  have hlocks := B.notSynchronized
  subst hsz
  have hD := hD0.self (sz := s.heap.size)
  generalize hAe : va_A [(h0, .inr (6, [.int bg, .ref h1, .ref h2, .ref h3, .ref h4, .ref h5, .ref h6, .ref h7, .int ln, .ref h8, .int mt, .int en, .int sx, .int pl, .int ov, .int tk, .ref h9])), (h1, .inl (cC, 6, .inl na)), (h2, .inl (cI, 2, .inl cu)), (h3, .inl (cI, 48, .inl pa)), (h4, .inl (cI, 48, .inl re)), (h5, .inl (cZ, 48, .inl cl)), (h6, .inl (cI, 48, .inl si)), (h7, .inl (cC, 288, .inl lt)), (h8, .inl (cC, 3000, .inl pg)), (h9, .inl (cC, 6, .inl rd))] s.heap.size = A at hD
  have hA : ∀ q : Nat, s.heap.size ≤ q → A q := fun q h => by rw [← hAe]; exact Or.inr h
  have hS : va_S A s.heap s.heap [] := va_S.rf
  have hP : va_P (dC, dI) vwCl [(h0, .inr (6, [.int bg, .ref h1, .ref h2, .ref h3, .ref h4, .ref h5, .ref h6, .ref h7, .int ln, .ref h8, .int mt, .int en, .int sx, .int pl, .int ov, .int tk, .ref h9])), (h1, .inl (cC, 6, .inl na)), (h2, .inl (cI, 2, .inl cu)), (h3, .inl (cI, 48, .inl pa)), (h4, .inl (cI, 48, .inl re)), (h5, .inl (cZ, 48, .inl cl)), (h6, .inl (cI, 48, .inl si)), (h7, .inl (cC, 288, .inl lt)), (h8, .inl (cC, 3000, .inl pg)), (h9, .inl (cC, 6, .inl rd))] s.heap := hP
  have hl := lv_entry [.ref h0, .int x1, .int x2] (n := 7) (Nat.le_of_ble_eq_true rfl)
  have he : entryFrame m args 7 = _ := (congrArg (fun a => entryFrame m a 7) hargs).trans (lg_entry_eq m [.ref h0, .int x1, .int x2] 7)
  rw [he]
  generalize (lg_sl [.ref h0, .int x1, .int x2] ++ List.replicate (7 - (lg_sl [.ref h0, .int x1, .int x2]).length) Slot.unset).toArray = ls at hl ⊢
  have hl : lv_has ls 7 [(0, .ref h0), (1, .int x1), (2, .int x2)] := hl
  generalize hQ : MQ below _ args s _ _ _ = Q
  have lp7 : ∀ (n7 : Nat), ∀ (x1 : Int32) (x2 : Int32) (x3 : Int32) (x4 : Int32), fl_M_good_7 cu pa re  n7 (x1, x2, x3, x4) = some out → ∀ ls : Array Slot, lv_has ls 7 [(0, .ref h0), (1, .int x1), (2, .int x2), (3, .int x3), (4, .int x4)] → W p l e (headSpec ws_M_good { frames := 0, cells := 0, slots := 0, locals := 0 }).room s m args below meth c s.heap [] 0 0 Q (F0 m 7 ls []) := by
    intro n7
    induction n7 with
    | zero =>
      intro x1 x2 x3 x4 hF
      exact (jv_no hF).elim
    | succ n7 ih7 =>
      have lp35 : ∀ (n35 : Nat), ∀ (x1 : Int32) (x2 : Int32) (x3 : Int32) (x4 : Int32) (x5 : Int32) (x6 : Int32), fl_M_good_35 cu pa re (fl_M_good_7 cu pa re  n7) n35 (x1, x2, x3, x4, x5, x6) = some out → ∀ ls : Array Slot, lv_has ls 7 [(0, .ref h0), (1, .int x1), (2, .int x2), (3, .int x3), (4, .int x4), (5, .int x5), (6, .int x6)] → W p l e (headSpec ws_M_good { frames := 0, cells := 0, slots := 0, locals := 0 }).room s m args below meth c s.heap [] 0 0 Q (F0 m 35 ls []) := by
        intro n35
        induction n35 with
        | zero =>
          intro x1 x2 x3 x4 x5 x6 hF
          exact (jv_no hF).elim
        | succ n35 ih35 =>
          have bl56 : ∀ (x1 : Int32) (x2 : Int32) (x3 : Int32) (x4 : Int32) (x6 : Int32) (y0 : Int32), fb_M_good_56 cu pa re (fl_M_good_7 cu pa re  n7) (fl_M_good_35 cu pa re (fl_M_good_7 cu pa re  n7) n35) x1 x2 x3 x4 x6 y0 = some out → ∀ ls : Array Slot, lv_has ls 7 [(0, .ref h0), (1, .int x1), (2, .int x2), (3, .int x3), (4, .int x4), (6, .int x6)] → W p l e (headSpec ws_M_good { frames := 0, cells := 0, slots := 0, locals := 0 }).room s m args below meth c s.heap [] 0 0 Q (F0 m 56 ls [.int y0]) := by
            intro x1 x2 x3 x4 x6 y0 hF ls hl
            unfold fb_M_good_56 at hF
            refine lv_istore (lv' := [(5, .int y0), (0, .ref h0), (1, .int x1), (2, .int x2), (3, .int x3), (4, .int x4), (6, .int x6)]) hx hb dd_M_good_56 hl (by decide) rfl (fun ls hl => ?_)
            refine lv_aload_n hx hb dd_M_good_58 rfl (lv_at hl 1 rfl) ?_
            refine va_get (D := (dC, dI)) (ci := 6) (v := .ref h3) (C := cn_M) (T := tt_M) (N := 17) hx hb ht in_M hown hK hP 0 rfl rfl 3 (by decide) (ht _ tw_3_44) (fun _ h9 => h9) rfl dd_M_good_59 ?_
            refine lv_bipush (v := 24) hx hb dd_M_good_62 (by decide) ?_
            refine lv_iload_n hx hb dd_M_good_64 rfl (lv_at hl 2 rfl) ?_
            refine lv_imul hx hb dd_M_good_65 ?_
            refine lv_iload hx hb dd_M_good_66 (lv_at hl 6 rfl) ?_
            refine lv_iadd hx hb dd_M_good_68 ?_
            obtain ⟨g_12, hF⟩ := jv_gi hF
            refine va_iald hx hb hK hP 3 0 rfl rfl (jv_in g_12) dd_M_good_69 ?_
            refine lv_istore (lv' := [(6, .int (pa ((24 * x1) + x6).toNatClampNeg)), (5, .int y0), (0, .ref h0), (1, .int x1), (2, .int x2), (3, .int x3), (4, .int x4)]) hx hb dd_M_good_70 hl (by decide) rfl (fun ls hl => ?_)
            refine lv_goto (tgt := 35) hx hb dd_M_good_72 (by decide) ?_
            exact ih35 x1 x2 x3 x4 y0 (pa ((24 * x1) + x6).toNatClampNeg) hF ls (lv_sub hl [2, 3, 4, 5, 6, 1, 0] rfl)
          intro x1 x2 x3 x4 x5 x6 hF ls hl
          have hF : fb_M_good_35 cu pa re (fl_M_good_7 cu pa re  n7) (fl_M_good_35 cu pa re (fl_M_good_7 cu pa re  n7) n35) x1 x2 x3 x4 x5 x6 = some out := hF
          unfold fb_M_good_35 at hF
          refine lv_iload hx hb dd_M_good_35 (lv_at hl 6 rfl) ?_
          refine lv_if_lt (tgt := 75) hx hb dd_M_good_37 (by decide) (fun c_13 => ?_) (fun c_13 => ?_)
          · have hF := jv_t c_13 hF
            refine lv_iload_n hx hb dd_M_good_75 rfl (lv_at hl 3 rfl) ?_
            refine lv_if_eq (tgt := 104) hx hb dd_M_good_76 (by decide) (fun c_14 => ?_) (fun c_14 => ?_)
            · have hF := jv_t c_14 hF
              refine lv_iconst (v := 0) hx hb dd_M_good_104 (by decide) ?_
              refine lv_istore_n (lv' := [(3, .int 0), (0, .ref h0), (1, .int x1), (2, .int x2), (4, .int x4), (5, .int x5), (6, .int x6)]) hx hb dd_M_good_105 rfl hl (by decide) rfl (fun ls hl => ?_)
              refine lv_iinc (v := x4 + 1) (lv' := [(4, .int (x4 + 1)), (3, .int 0), (0, .ref h0), (1, .int x1), (2, .int x2), (5, .int x5), (6, .int x6)]) hx hb dd_M_good_106 hl (k := 4) rfl rfl (by decide) rfl (fun ls hl => ?_)
              refine lv_goto (tgt := 7) hx hb dd_M_good_109 (by decide) ?_
              exact ih7 x1 x2 0 (x4 + 1) hF ls (lv_sub hl [2, 3, 4, 1, 0] rfl)
            · have hF := jv_f c_14 hF
              refine lv_iload hx hb dd_M_good_79 (lv_at hl 5 rfl) ?_
              refine lv_if_eq (tgt := 100) hx hb dd_M_good_81 (by decide) (fun c_15 => ?_) (fun c_15 => ?_)
              · have hF := jv_t c_15 hF
                refine lv_iconst (v := 1) hx hb dd_M_good_100 (by decide) ?_
                refine lv_goto (tgt := 105) hx hb dd_M_good_101 (by decide) ?_
                refine lv_istore_n (lv' := [(3, .int 1), (0, .ref h0), (1, .int x1), (2, .int x2), (4, .int x4), (5, .int x5), (6, .int x6)]) hx hb dd_M_good_105 rfl hl (by decide) rfl (fun ls hl => ?_)
                refine lv_iinc (v := x4 + 1) (lv' := [(4, .int (x4 + 1)), (3, .int 1), (0, .ref h0), (1, .int x1), (2, .int x2), (5, .int x5), (6, .int x6)]) hx hb dd_M_good_106 hl (k := 4) rfl rfl (by decide) rfl (fun ls hl => ?_)
                refine lv_goto (tgt := 7) hx hb dd_M_good_109 (by decide) ?_
                exact ih7 x1 x2 1 (x4 + 1) hF ls (lv_sub hl [2, 3, 4, 1, 0] rfl)
              · have hF := jv_f c_15 hF
                refine lv_aload_n hx hb dd_M_good_84 rfl (lv_at hl 0 rfl) ?_
                refine va_get (D := (dC, dI)) (ci := 6) (v := .ref h4) (C := cn_M) (T := tt_M) (N := 17) hx hb ht in_M hown hK hP 0 rfl rfl 4 (by decide) (ht _ tw_3_45) (fun _ h9 => h9) rfl dd_M_good_85 ?_
                refine lv_bipush (v := 24) hx hb dd_M_good_88 (by decide) ?_
                refine lv_iload_n hx hb dd_M_good_90 rfl (lv_at hl 1 rfl) ?_
                refine lv_imul hx hb dd_M_good_91 ?_
                refine lv_iload hx hb dd_M_good_92 (lv_at hl 4 rfl) ?_
                refine lv_iadd hx hb dd_M_good_94 ?_
                obtain ⟨g_16, hF⟩ := jv_gi hF
                refine va_iald hx hb hK hP 4 0 rfl rfl (jv_in g_16) dd_M_good_95 ?_
                refine lv_iconst (v := 1) hx hb dd_M_good_96 (by decide) ?_
                refine lv_icmp_eq (tgt := 104) hx hb dd_M_good_97 (by decide) (fun c_17 => ?_) (fun c_17 => ?_)
                · have hF := jv_t c_17 hF
                  refine lv_iconst (v := 0) hx hb dd_M_good_104 (by decide) ?_
                  refine lv_istore_n (lv' := [(3, .int 0), (0, .ref h0), (1, .int x1), (2, .int x2), (4, .int x4), (5, .int x5), (6, .int x6)]) hx hb dd_M_good_105 rfl hl (by decide) rfl (fun ls hl => ?_)
                  refine lv_iinc (v := x4 + 1) (lv' := [(4, .int (x4 + 1)), (3, .int 0), (0, .ref h0), (1, .int x1), (2, .int x2), (5, .int x5), (6, .int x6)]) hx hb dd_M_good_106 hl (k := 4) rfl rfl (by decide) rfl (fun ls hl => ?_)
                  refine lv_goto (tgt := 7) hx hb dd_M_good_109 (by decide) ?_
                  exact ih7 x1 x2 0 (x4 + 1) hF ls (lv_sub hl [2, 3, 4, 1, 0] rfl)
                · have hF := jv_f c_17 hF
                  refine lv_iconst (v := 1) hx hb dd_M_good_100 (by decide) ?_
                  refine lv_goto (tgt := 105) hx hb dd_M_good_101 (by decide) ?_
                  refine lv_istore_n (lv' := [(3, .int 1), (0, .ref h0), (1, .int x1), (2, .int x2), (4, .int x4), (5, .int x5), (6, .int x6)]) hx hb dd_M_good_105 rfl hl (by decide) rfl (fun ls hl => ?_)
                  refine lv_iinc (v := x4 + 1) (lv' := [(4, .int (x4 + 1)), (3, .int 1), (0, .ref h0), (1, .int x1), (2, .int x2), (5, .int x5), (6, .int x6)]) hx hb dd_M_good_106 hl (k := 4) rfl rfl (by decide) rfl (fun ls hl => ?_)
                  refine lv_goto (tgt := 7) hx hb dd_M_good_109 (by decide) ?_
                  exact ih7 x1 x2 1 (x4 + 1) hF ls (lv_sub hl [2, 3, 4, 1, 0] rfl)
          · have hF := jv_f c_13 hF
            refine lv_iload hx hb dd_M_good_40 (lv_at hl 5 rfl) ?_
            refine lv_if_ne (tgt := 51) hx hb dd_M_good_42 (by decide) (fun c_18 => ?_) (fun c_18 => ?_)
            · have hF := jv_f c_18 hF
              refine lv_iconst (v := 1) hx hb dd_M_good_51 (by decide) ?_
              refine lv_goto (tgt := 56) hx hb dd_M_good_52 (by decide) ?_
              exact bl56 x1 x2 x3 x4 x6 1 hF ls (lv_sub hl [0, 1, 2, 3, 4, 6] rfl)
            · have hF := jv_t c_18 hF
              refine lv_iload hx hb dd_M_good_45 (lv_at hl 6 rfl) ?_
              refine lv_iload_n hx hb dd_M_good_47 rfl (lv_at hl 2 rfl) ?_
              refine lv_icmp_ne (tgt := 55) hx hb dd_M_good_48 (by decide) (fun c_19 => ?_) (fun c_19 => ?_)
              · have hF := jv_f c_19 hF
                refine lv_iconst (v := 0) hx hb dd_M_good_55 (by decide) ?_
                exact bl56 x1 x2 x3 x4 x6 0 hF ls (lv_sub hl [0, 1, 2, 3, 4, 6] rfl)
              · have hF := jv_t c_19 hF
                refine lv_iconst (v := 1) hx hb dd_M_good_51 (by decide) ?_
                refine lv_goto (tgt := 56) hx hb dd_M_good_52 (by decide) ?_
                exact bl56 x1 x2 x3 x4 x6 1 hF ls (lv_sub hl [0, 1, 2, 3, 4, 6] rfl)
      intro x1 x2 x3 x4 hF ls hl
      have hF : fb_M_good_7 cu pa re  (fl_M_good_7 cu pa re  n7) x1 x2 x3 x4 = some out := hF
      unfold fb_M_good_7 at hF
      refine lv_iload hx hb dd_M_good_7 (lv_at hl 4 rfl) ?_
      refine lv_aload_n hx hb dd_M_good_9 rfl (lv_at hl 0 rfl) ?_
      refine va_get (D := (dC, dI)) (ci := 6) (v := .ref h2) (C := cn_M) (T := tt_M) (N := 17) hx hb ht in_M hown hK hP 0 rfl rfl 2 (by decide) (ht _ tw_3_43) (fun _ h9 => h9) rfl dd_M_good_10 ?_
      refine lv_iload_n hx hb dd_M_good_13 rfl (lv_at hl 1 rfl) ?_
      obtain ⟨g_20, hF⟩ := jv_gi hF
      refine va_iald hx hb hK hP 2 0 rfl rfl (jv_in g_20) dd_M_good_14 ?_
      refine lv_icmp_ge (tgt := 112) hx hb dd_M_good_15 (by decide) (fun c_21 => ?_) (fun c_21 => ?_)
      · have hF := jv_t c_21 hF
        refine lv_iload_n hx hb dd_M_good_112 rfl (lv_at hl 3 rfl) ?_
        obtain ⟨z_22, hF⟩ := jv_gi hF
        subst hQ
        exact W.zret (v := x3) hx hb hr (jv_zn z_22).1 (fun t ht hW => ⟨x3, rfl, (Option.some.inj hF), ht⟩) (fun _ h => by cases h) dd_M_good_113
      · have hF := jv_f c_21 hF
        refine lv_iconst (v := 0) hx hb dd_M_good_18 (by decide) ?_
        refine lv_istore (lv' := [(5, .int 0), (0, .ref h0), (1, .int x1), (2, .int x2), (3, .int x3), (4, .int x4)]) hx hb dd_M_good_19 hl (by decide) rfl (fun ls hl => ?_)
        refine lv_aload_n hx hb dd_M_good_21 rfl (lv_at hl 1 rfl) ?_
        refine va_get (D := (dC, dI)) (ci := 6) (v := .ref h3) (C := cn_M) (T := tt_M) (N := 17) hx hb ht in_M hown hK hP 0 rfl rfl 3 (by decide) (ht _ tw_3_44) (fun _ h9 => h9) rfl dd_M_good_22 ?_
        refine lv_bipush (v := 24) hx hb dd_M_good_25 (by decide) ?_
        refine lv_iload_n hx hb dd_M_good_27 rfl (lv_at hl 2 rfl) ?_
        refine lv_imul hx hb dd_M_good_28 ?_
        refine lv_iload hx hb dd_M_good_29 (lv_at hl 5 rfl) ?_
        refine lv_iadd hx hb dd_M_good_31 ?_
        obtain ⟨g_23, hF⟩ := jv_gi hF
        refine va_iald hx hb hK hP 3 0 rfl rfl (jv_in g_23) dd_M_good_32 ?_
        refine lv_istore (lv' := [(6, .int (pa ((24 * x1) + x4).toNatClampNeg)), (5, .int 0), (0, .ref h0), (1, .int x1), (2, .int x2), (3, .int x3), (4, .int x4)]) hx hb dd_M_good_33 hl (by decide) rfl (fun ls hl => ?_)
        exact lp35 4000 x1 x2 x3 x4 0 (pa ((24 * x1) + x4).toNatClampNeg) hF ls (lv_sub hl [2, 3, 4, 5, 6, 1, 0] rfl)
  unfold fn_M_good at hF
  refine lv_iconst (v := 1) hx hb dd_M_good_0 (by decide) ?_
  refine lv_istore_n (lv' := [(3, .int 1), (0, .ref h0), (1, .int x1), (2, .int x2)]) hx hb dd_M_good_1 rfl hl (by decide) rfl (fun ls hl => ?_)
  refine lv_iload_n hx hb dd_M_good_2 rfl (lv_at hl 3 rfl) ?_
  refine lv_iconst (v := 1) hx hb dd_M_good_3 (by decide) ?_
  refine lv_iadd hx hb dd_M_good_4 ?_
  refine lv_istore (lv' := [(4, .int (x2 + 1)), (3, .int 1), (0, .ref h0), (1, .int x1), (2, .int x2)]) hx hb dd_M_good_5 hl (by decide) rfl (fun ls hl => ?_)
  exact lp7 4000 x1 x2 1 (x2 + 1) hF ls (lv_sub hl [2, 3, 4, 1, 0] rfl)
set_option maxHeartbeats 40000000 in
set_option maxRecDepth 100000 in
theorem c_M_kind (l : Launch) (dC : Nat → ClassId) (dI : Nat → Nat → Nat) (cI cL cC cZ : ClassId) (h0 h1 h2 h3 h4 h5 h6 h7 h8 h9 : Nat) (sz : Nat) (bg : Int32) (ln : Int32) (mt : Int32) (en : Int32) (sx : Int32) (pl : Int32) (ov : Int32) (tk : Int32) (na : Nat → Int32) (cu : Nat → Int32) (pa : Nat → Int32) (re : Nat → Int32) (cl : Nat → Int32) (si : Nat → Int32) (lt : Nat → Int32) (pg : Nat → Int32) (rd : Nat → Int32) (x1 : Int32) (out : Int32) (hF : fn_M_kind cu pa re cl x1 = some out) : Met l yy_M_kind ws_M_kind { frames := 1, cells := 0, slots := 0, locals := 26 } (mP_ (dC, dI) (tk_ cI cL cC cZ) [(h0, .inr (6, [.int bg, .ref h1, .ref h2, .ref h3, .ref h4, .ref h5, .ref h6, .ref h7, .int ln, .ref h8, .int mt, .int en, .int sx, .int pl, .int ov, .int tk, .ref h9])), (h1, .inl (cC, 6, .inl na)), (h2, .inl (cI, 2, .inl cu)), (h3, .inl (cI, 48, .inl pa)), (h4, .inl (cI, 48, .inl re)), (h5, .inl (cZ, 48, .inl cl)), (h6, .inl (cI, 48, .inl si)), (h7, .inl (cC, 288, .inl lt)), (h8, .inl (cC, 3000, .inl pg)), (h9, .inl (cC, 6, .inl rd))] sz [.ref h0, .int x1]) (vp_Si (fun r => r = out)) 0 0 (fun _ => False) := by
  refine Met.ofW (cc := cc_M_kind) (maxL := 2) (ret := (some .int)) (by decide) rfl ?_
  intro p e s m args below meth c s₁ B hml hv
  obtain ⟨hargs, hsz, hP, hK, hD0⟩ := hv
  have hx := B.exec
  have hb := B.bytes
  have hr := B.returns
  have hts := atoms_spec (ws := ws_M_kind) B.pre
  have ht : ∀ w ∈ TB_, w.before args s = true := fun w h => hts w (List.mem_cons_of_mem _ h)
  have hown : s.vm.findClass cn_M = some m.cls := findClass_of_methodNamed B.named
  have hlocks := B.notSynchronized
  subst hsz
  have hD := hD0.self (sz := s.heap.size)
  generalize hAe : va_A [(h0, .inr (6, [.int bg, .ref h1, .ref h2, .ref h3, .ref h4, .ref h5, .ref h6, .ref h7, .int ln, .ref h8, .int mt, .int en, .int sx, .int pl, .int ov, .int tk, .ref h9])), (h1, .inl (cC, 6, .inl na)), (h2, .inl (cI, 2, .inl cu)), (h3, .inl (cI, 48, .inl pa)), (h4, .inl (cI, 48, .inl re)), (h5, .inl (cZ, 48, .inl cl)), (h6, .inl (cI, 48, .inl si)), (h7, .inl (cC, 288, .inl lt)), (h8, .inl (cC, 3000, .inl pg)), (h9, .inl (cC, 6, .inl rd))] s.heap.size = A at hD
  have hA : ∀ q : Nat, s.heap.size ≤ q → A q := fun q h => by rw [← hAe]; exact Or.inr h
  have hS : va_S A s.heap s.heap [] := va_S.rf
  have hP : va_P (dC, dI) vwCl [(h0, .inr (6, [.int bg, .ref h1, .ref h2, .ref h3, .ref h4, .ref h5, .ref h6, .ref h7, .int ln, .ref h8, .int mt, .int en, .int sx, .int pl, .int ov, .int tk, .ref h9])), (h1, .inl (cC, 6, .inl na)), (h2, .inl (cI, 2, .inl cu)), (h3, .inl (cI, 48, .inl pa)), (h4, .inl (cI, 48, .inl re)), (h5, .inl (cZ, 48, .inl cl)), (h6, .inl (cI, 48, .inl si)), (h7, .inl (cC, 288, .inl lt)), (h8, .inl (cC, 3000, .inl pg)), (h9, .inl (cC, 6, .inl rd))] s.heap := hP
  have hl := lv_entry [.ref h0, .int x1] (n := 2) (Nat.le_of_ble_eq_true rfl)
  have he : entryFrame m args 2 = _ := (congrArg (fun a => entryFrame m a 2) hargs).trans (lg_entry_eq m [.ref h0, .int x1] 2)
  rw [he]
  generalize (lg_sl [.ref h0, .int x1] ++ List.replicate (2 - (lg_sl [.ref h0, .int x1]).length) Slot.unset).toArray = ls at hl ⊢
  have hl : lv_has ls 2 [(0, .ref h0), (1, .int x1)] := hl
  generalize hQ : MQ below _ args s _ _ _ = Q
  unfold fn_M_kind at hF
  refine lv_aload_n hx hb dd_M_kind_0 rfl (lv_at hl 0 rfl) ?_
  refine lv_iload_n hx hb dd_M_kind_1 rfl (lv_at hl 1 rfl) ?_
  obtain ⟨o_2, ho_2, hF⟩ := jv_bi hF
  refine jv_ci (va_runV (C := cn_M) (As := [.int x1]) (rest := []) ⟨hx, hb, hml, hown, ht⟩ (c_M_node l dC dI cI cL cC cZ h0 h1 h2 h3 h4 h5 h6 h7 h8 h9 s.heap.size bg ln mt en sx pl ov tk na cu pa re cl si lt pg rd x1 _ ho_2) (cwV 1 ht (gi_V tw_3_138 tw_3_140 tw_p_18 tw_1_4 tw_3_141) rfl rfl rfl (by decide +kernel) ⟨Nat.le_of_ble_eq_true rfl, Nat.le_of_ble_eq_true rfl⟩) (jv_pv hK hP hD [0, 1, 2, 3, 4, 5, 6, 7, 8, 9] rfl (by decide) rfl (va_recv hK hP (ci := 6) (q0 := 0) rfl rfl)) rfl rfl hl.1 rfl (lv_room (Nat.le_of_ble_eq_true rfl)) dd_M_kind_2 ⟨Nat.le_of_ble_eq_true rfl, Nat.le_of_ble_eq_true rfl⟩) ?_
  refine lv_if_ne (tgt := 10) hx hb dd_M_kind_5 (by decide) (fun c_8 => ?_) (fun c_8 => ?_)
  · have hF := jv_f c_8 hF
    refine lv_aload_n hx hb dd_M_kind_10 rfl (lv_at hl 0 rfl) ?_
    refine va_get (D := (dC, dI)) (ci := 6) (v := .ref h4) (C := cn_M) (T := tt_M) (N := 17) hx hb ht in_M hown hK hP 0 rfl rfl 4 (by decide) (ht _ tw_3_45) (fun _ h9 => h9) rfl dd_M_kind_11 ?_
    refine lv_iload_n hx hb dd_M_kind_14 rfl (lv_at hl 1 rfl) ?_
    obtain ⟨g_9, hF⟩ := jv_gi hF
    refine va_iald hx hb hK hP 4 0 rfl rfl (jv_in g_9) dd_M_kind_15 ?_
    refine lv_iconst (v := 4) hx hb dd_M_kind_16 (by decide) ?_
    refine lv_icmp_ge (tgt := 29) hx hb dd_M_kind_17 (by decide) (fun c_10 => ?_) (fun c_10 => ?_)
    · have hF := jv_t c_10 hF
      refine lv_aload_n hx hb dd_M_kind_29 rfl (lv_at hl 0 rfl) ?_
      refine va_get (D := (dC, dI)) (ci := 6) (v := .ref h5) (C := cn_M) (T := tt_M) (N := 17) hx hb ht in_M hown hK hP 0 rfl rfl 5 (by decide) (ht _ tw_3_46) (fun _ h9 => h9) rfl dd_M_kind_30 ?_
      refine lv_iload_n hx hb dd_M_kind_33 rfl (lv_at hl 1 rfl) ?_
      obtain ⟨g_11, hF⟩ := jv_gi hF
      refine va_zald hx hb hK hP 5 3 rfl rfl (jv_in g_11) dd_M_kind_34 ?_
      refine lv_if_ne (tgt := 43) hx hb dd_M_kind_35 (by decide) (fun c_12 => ?_) (fun c_12 => ?_)
      · have hF := jv_f c_12 hF
        refine lv_aload_n hx hb dd_M_kind_43 rfl (lv_at hl 0 rfl) ?_
        refine lv_iconst (v := 0) hx hb dd_M_kind_44 (by decide) ?_
        refine lv_iload_n hx hb dd_M_kind_45 rfl (lv_at hl 1 rfl) ?_
        obtain ⟨o_46, ho_46, hF⟩ := jv_bi hF
        refine jv_ci (va_runV (C := cn_M) (As := [.int 0, .int x1]) (rest := []) ⟨hx, hb, hml, hown, ht⟩ (c_M_good l dC dI cI cL cC cZ h0 h1 h2 h3 h4 h5 h6 h7 h8 h9 s.heap.size bg ln mt en sx pl ov tk na cu pa re cl si lt pg rd 0 x1 _ ho_46) (cwV 2 ht (gi_V tw_3_142 tw_3_144 tw_p_19 tw_1_4 tw_3_145) rfl rfl rfl (by decide +kernel) ⟨Nat.le_of_ble_eq_true rfl, Nat.le_of_ble_eq_true rfl⟩) (jv_pv hK hP hD [0, 1, 2, 3, 4, 5, 6, 7, 8, 9] rfl (by decide) rfl (va_recv hK hP (ci := 6) (q0 := 0) rfl rfl)) rfl rfl hl.1 rfl (lv_room (Nat.le_of_ble_eq_true rfl)) dd_M_kind_46 ⟨Nat.le_of_ble_eq_true rfl, Nat.le_of_ble_eq_true rfl⟩) ?_
        refine lv_if_eq (tgt := 56) hx hb dd_M_kind_49 (by decide) (fun c_13 => ?_) (fun c_13 => ?_)
        · have hF := jv_t c_13 hF
          refine lv_iconst (v := 5) hx hb dd_M_kind_56 (by decide) ?_
          subst hQ
          exact W.iret (v := 5) hx hb hr (fun t ht hW => ⟨5, rfl, (Option.some.inj hF), ht⟩) (fun _ h => by cases h) dd_M_kind_57
        · have hF := jv_f c_13 hF
          refine lv_iconst (v := 4) hx hb dd_M_kind_52 (by decide) ?_
          refine lv_goto (tgt := 57) hx hb dd_M_kind_53 (by decide) ?_
          subst hQ
          exact W.iret (v := 4) hx hb hr (fun t ht hW => ⟨4, rfl, (Option.some.inj hF), ht⟩) (fun _ h => by cases h) dd_M_kind_57
      · have hF := jv_t c_12 hF
        refine lv_bipush (v := 6) hx hb dd_M_kind_38 (by decide) ?_
        refine lv_goto (tgt := 57) hx hb dd_M_kind_40 (by decide) ?_
        subst hQ
        exact W.iret (v := 6) hx hb hr (fun t ht hW => ⟨6, rfl, (Option.some.inj hF), ht⟩) (fun _ h => by cases h) dd_M_kind_57
    · have hF := jv_f c_10 hF
      refine lv_aload_n hx hb dd_M_kind_20 rfl (lv_at hl 0 rfl) ?_
      refine va_get (D := (dC, dI)) (ci := 6) (v := .ref h4) (C := cn_M) (T := tt_M) (N := 17) hx hb ht in_M hown hK hP 0 rfl rfl 4 (by decide) (ht _ tw_3_45) (fun _ h9 => h9) rfl dd_M_kind_21 ?_
      refine lv_iload_n hx hb dd_M_kind_24 rfl (lv_at hl 1 rfl) ?_
      obtain ⟨g_14, hF⟩ := jv_gi hF
      refine va_iald hx hb hK hP 4 0 rfl rfl (jv_in g_14) dd_M_kind_25 ?_
      refine lv_goto (tgt := 57) hx hb dd_M_kind_26 (by decide) ?_
      subst hQ
      exact W.iret (v := re x1.toNatClampNeg) hx hb hr (fun t ht hW => ⟨re x1.toNatClampNeg, rfl, (Option.some.inj hF), ht⟩) (fun _ h => by cases h) dd_M_kind_57
  · have hF := jv_t c_8 hF
    refine lv_iconst (v := (-1)) hx hb dd_M_kind_8 (by decide) ?_
    subst hQ
    exact W.iret (v := (-1)) hx hb hr (fun t ht hW => ⟨(-1), rfl, (Option.some.inj hF), ht⟩) (fun _ h => by cases h) dd_M_kind_9
