set_option maxHeartbeats 40000000 in
set_option maxRecDepth 100000 in
theorem c_P_init (l : Launch) (dC : Nat → ClassId) (dI : Nat → Nat → Nat) (cI cL cC cZ : ClassId) (h0 : Nat) (sz : Nat)   (out : Int32 × (Nat → Int32)) (hF : fn_P_init  = some out) : Met l yy_P_init ws_P_init { frames := 1, cells := 1, slots := 3000, locals := 12 } (mP_ (dC, dI) (tk_ cI cL cC cZ) [(h0, .inr (1, [.null, .int 0]))] sz [.ref h0]) (va_Qv (fun _ : Nat => True) (mU_ (dC, dI) (tk_ cI cL cC cZ) (fun u : Nat => [(h0, .inr (1, [.ref u, .int out.1])), (u, .inl (cC, 3000, .inl out.2))]) (va_A [(h0, .inr (1, [.null, .int 0]))] sz)) (va_A [(h0, .inr (1, [.null, .int 0]))] sz)) 1 3000 (va_A [(h0, .inr (1, [.null, .int 0]))] sz) := by
  refine Met.ofW (cc := cc_P_init) (maxL := 1) (ret := none) (by decide) rfl ?_
  intro p e s m args below meth c s₁ B hml hv
  obtain ⟨hargs, hsz, hP, hK, hD0⟩ := hv
  have hx := B.exec
  have hb := B.bytes
  have hr := B.returns
  have hts := atoms_spec (ws := ws_P_init) B.pre
  have ht : ∀ w ∈ TB_, w.before args s = true := fun w h => hts w (List.mem_cons_of_mem _ h)
  have hown : s.vm.findClass cn_P = some m.cls := findClass_of_methodNamed B.named
  have hlocks := B.notSynchronized
  have hin : meth.name = "<init>" := (name_of_methodNamed B.named B.method).1
  subst hsz
  have hD := hD0.self (sz := s.heap.size)
  generalize hAe : va_A [(h0, .inr (1, [.null, .int 0]))] s.heap.size = A at hD ⊢
  have hA : ∀ q : Nat, s.heap.size ≤ q → A q := fun q h => by rw [← hAe]; exact Or.inr h
  have hS : va_S A s.heap s.heap [] := va_S.rf
  have hP : va_P (dC, dI) vwCl [(h0, .inr (1, [.null, .int 0]))] s.heap := hP
  have hl := lv_entry [.ref h0] (n := 1) (Nat.le_of_ble_eq_true rfl)
  have he : entryFrame m args 1 = _ := (congrArg (fun a => entryFrame m a 1) hargs).trans (lg_entry_eq m [.ref h0] 1)
  rw [he]
  generalize (lg_sl [.ref h0] ++ List.replicate (1 - (lg_sl [.ref h0]).length) Slot.unset).toArray = ls at hl ⊢
  have hl : lv_has ls 1 [(0, .ref h0)] := hl
  generalize hQ : MQ below _ args s _ _ _ = Q
  unfold fn_P_init at hF
  refine lv_aload_n hx hb dd_P_init_0 rfl (lv_at hl 0 rfl) ?_
  refine W.objInit hx hb hown (ht _ tw_1_26) (ht _ tw_1_19) (ht _ tw_1_20) rfl (by rw [hml]; exact hl.1) rfl dd_P_init_1 (Nat.le_of_ble_eq_true rfl) (Nat.le_of_ble_eq_true rfl) ?_
  refine W.eq (g2 := F0 m 4 ls []) rfl ?_
  refine lv_aload_n hx hb dd_P_init_4 rfl (lv_at hl 0 rfl) ?_
  refine lv_sipush (v := 3000) hx hb dd_P_init_5 (by decide) ?_
  refine jv_nac hx hb (ht _ tw_1_34) hK hP hD hS hA (N' := 3000) (a0 := (3000, .inl (fun _ => 0))) (fun _ => rfl) (by decide) (by decide) (by decide) (Nat.le_of_ble_eq_true rfl) (Nat.le_of_ble_eq_true rfl) dd_P_init_8 (fun q_7 H_8 hP hD hS => ?_)
  have hP : va_P (dC, dI) vwCl [(h0, .inr (1, [.null, .int 0])), (q_7, .inl (cC, 3000, .inl (fun _ => 0)))] H_8 := hP
  have hD : va_D A [(h0, .inr (1, [.null, .int 0])), (q_7, .inl (cC, 3000, .inl (fun _ => 0)))] := hD
  refine va_putF (D := (dC, dI)) (ci := 1) (v := .ref q_7) (ty := (.array .char)) (C := cn_P) (T := tt_P) (N := 2) hx hb ht in_P ty_P tyok_P nm_P hown hK hP hD hS 0 rfl rfl 0 (by decide) (ht _ tw_1_27) (fun _ h9 => h9) rfl hin rfl (by decide +kernel) rfl rfl (Nat.le_of_ble_eq_true rfl) dd_P_init_10 (fun H_9 locs_10 hP hD hS => ?_)
  have hP : va_P (dC, dI) vwCl [(h0, .inr (1, [.ref q_7, .int 0])), (q_7, .inl (cC, 3000, .inl (fun _ => 0)))] H_9 := hP
  have hD : va_D A [(h0, .inr (1, [.ref q_7, .int 0])), (q_7, .inl (cC, 3000, .inl (fun _ => 0)))] := hD
  refine lv_aload_n hx hb dd_P_init_13 rfl (lv_at hl 0 rfl) ?_
  refine lv_iconst (v := 0) hx hb dd_P_init_14 (by decide) ?_
  refine va_put (D := (dC, dI)) (ci := 1) (v := .int 0) (ty := .int) (C := cn_P) (T := tt_P) (N := 2) hx hb ht in_P ty_P tyok_P nm_P hown hK hP hD hS 0 rfl rfl 1 (by decide) (ht _ tw_1_28) (fun _ h9 => h9) rfl (by decide +kernel) rfl rfl (Nat.le_of_ble_eq_true rfl) dd_P_init_15 (fun H_11 locs_12 hP hD hS => ?_)
  have hP : va_P (dC, dI) vwCl [(h0, .inr (1, [.ref q_7, .int 0])), (q_7, .inl (cC, 3000, .inl (fun _ => 0)))] H_11 := hP
  have hD : va_D A [(h0, .inr (1, [.ref q_7, .int 0])), (q_7, .inl (cC, 3000, .inl (fun _ => 0)))] := hD
  subst hQ
  obtain rfl := Option.some.inj hF
  have hP := hP.sub (ws' := [(h0, .inr (1, [.ref q_7, .int 0])), (q_7, .inl (cC, 3000, .inl (fun _ => 0)))]) [0, 1] rfl
  have hD := hD.sub (ws' := [(h0, .inr (1, [.ref q_7, .int 0])), (q_7, .inl (cC, 3000, .inl (fun _ => 0)))]) [0, 1] (by decide) rfl
  exact W.vret hx hb hr (fun t ht hW => ⟨⟨q_7, rfl, trivial, by rw [ht]; exact hP, va_K.moved hW.alike hK, hD⟩, hS.F ht⟩) hS.2.2 dd_P_init_18
set_option maxHeartbeats 40000000 in
set_option maxRecDepth 100000 in
theorem c_P_size (l : Launch) (dC : Nat → ClassId) (dI : Nat → Nat → Nat) (cI cL cC cZ : ClassId) (h0 h1 : Nat) (sz : Nat) (zp : Int32) (ch : Nat → Int32)  (out : Int32) (hF : fn_P_size zp = some out) : Met l yy_P_size ws_P_size { frames := 0, cells := 0, slots := 0, locals := 0 } (mP_ (dC, dI) (tk_ cI cL cC cZ) [(h0, .inr (1, [.ref h1, .int zp])), (h1, .inl (cC, 3000, .inl ch))] sz [.ref h0]) (vp_Si (fun r => r = out)) 0 0 (fun _ => False) := by
  refine Met.ofW (cc := cc_P_size) (maxL := 1) (ret := (some .int)) (by decide) rfl ?_
  intro p e s m args below meth c s₁ B hml hv
  obtain ⟨hargs, hsz, hP, hK, hD0⟩ := hv
  have hx := B.exec
  have hb := B.bytes
  have hr := B.returns
  have hts := atoms_spec (ws := ws_P_size) B.pre
  have ht : ∀ w ∈ TB_, w.before args s = true := fun w h => hts w (List.mem_cons_of_mem _ h)
  have hown : s.vm.findClass cn_P = some m.cls := findClass_of_methodNamed B.named
  have hlocks := B.notSynchronized
  subst hsz
  have hD := hD0.self (sz := s.heap.size)
  generalize hAe : va_A [(h0, .inr (1, [.ref h1, .int zp])), (h1, .inl (cC, 3000, .inl ch))] s.heap.size = A at hD
  have hA : ∀ q : Nat, s.heap.size ≤ q → A q := fun q h => by rw [← hAe]; exact Or.inr h
  have hS : va_S A s.heap s.heap [] := va_S.rf
  have hP : va_P (dC, dI) vwCl [(h0, .inr (1, [.ref h1, .int zp])), (h1, .inl (cC, 3000, .inl ch))] s.heap := hP
  have hl := lv_entry [.ref h0] (n := 1) (Nat.le_of_ble_eq_true rfl)
  have he : entryFrame m args 1 = _ := (congrArg (fun a => entryFrame m a 1) hargs).trans (lg_entry_eq m [.ref h0] 1)
  rw [he]
  generalize (lg_sl [.ref h0] ++ List.replicate (1 - (lg_sl [.ref h0]).length) Slot.unset).toArray = ls at hl ⊢
  have hl : lv_has ls 1 [(0, .ref h0)] := hl
  generalize hQ : MQ below _ args s _ _ _ = Q
  unfold fn_P_size at hF
  refine lv_aload_n hx hb dd_P_size_0 rfl (lv_at hl 0 rfl) ?_
  refine va_get (D := (dC, dI)) (ci := 1) (v := .int zp) (C := cn_P) (T := tt_P) (N := 2) hx hb ht in_P hown hK hP 0 rfl rfl 1 (by decide) (ht _ tw_1_28) (fun _ h9 => h9) rfl dd_P_size_1 ?_
  subst hQ
  exact W.iret (v := zp) hx hb hr (fun t ht hW => ⟨zp, rfl, (Option.some.inj hF), ht⟩) (fun _ h => by cases h) dd_P_size_4
set_option maxHeartbeats 40000000 in
set_option maxRecDepth 100000 in
theorem c_P_codeAt (l : Launch) (dC : Nat → ClassId) (dI : Nat → Nat → Nat) (cI cL cC cZ : ClassId) (h0 h1 : Nat) (sz : Nat) (zp : Int32) (ch : Nat → Int32) (x1 : Int32) (out : Int32) (hF : fn_P_codeAt zp ch x1 = some out) : Met l yy_P_codeAt ws_P_codeAt { frames := 0, cells := 0, slots := 0, locals := 0 } (mP_ (dC, dI) (tk_ cI cL cC cZ) [(h0, .inr (1, [.ref h1, .int zp])), (h1, .inl (cC, 3000, .inl ch))] sz [.ref h0, .int x1]) (vp_Si (fun r => r = out)) 0 0 (fun _ => False) := by
  refine Met.ofW (cc := cc_P_codeAt) (maxL := 2) (ret := (some .int)) (by decide) rfl ?_
  intro p e s m args below meth c s₁ B hml hv
  obtain ⟨hargs, hsz, hP, hK, hD0⟩ := hv
  have hx := B.exec
  have hb := B.bytes
  have hr := B.returns
  have hts := atoms_spec (ws := ws_P_codeAt) B.pre
  have ht : ∀ w ∈ TB_, w.before args s = true := fun w h => hts w (List.mem_cons_of_mem _ h)
  have hown : s.vm.findClass cn_P = some m.cls := findClass_of_methodNamed B.named
  have hlocks := B.notSynchronized
  subst hsz
  have hD := hD0.self (sz := s.heap.size)
  generalize hAe : va_A [(h0, .inr (1, [.ref h1, .int zp])), (h1, .inl (cC, 3000, .inl ch))] s.heap.size = A at hD
  have hA : ∀ q : Nat, s.heap.size ≤ q → A q := fun q h => by rw [← hAe]; exact Or.inr h
  have hS : va_S A s.heap s.heap [] := va_S.rf
  have hP : va_P (dC, dI) vwCl [(h0, .inr (1, [.ref h1, .int zp])), (h1, .inl (cC, 3000, .inl ch))] s.heap := hP
  have hl := lv_entry [.ref h0, .int x1] (n := 2) (Nat.le_of_ble_eq_true rfl)
  have he : entryFrame m args 2 = _ := (congrArg (fun a => entryFrame m a 2) hargs).trans (lg_entry_eq m [.ref h0, .int x1] 2)
  rw [he]
  generalize (lg_sl [.ref h0, .int x1] ++ List.replicate (2 - (lg_sl [.ref h0, .int x1]).length) Slot.unset).toArray = ls at hl ⊢
  have hl : lv_has ls 2 [(0, .ref h0), (1, .int x1)] := hl
  generalize hQ : MQ below _ args s _ _ _ = Q
  unfold fn_P_codeAt at hF
  refine lv_iload_n hx hb dd_P_codeAt_0 rfl (lv_at hl 1 rfl) ?_
  refine lv_if_lt (tgt := 21) hx hb dd_P_codeAt_1 (by decide) (fun c_4 => ?_) (fun c_4 => ?_)
  · have hF := jv_t c_4 hF
    refine lv_iconst (v := (-1)) hx hb dd_P_codeAt_21 (by decide) ?_
    subst hQ
    exact W.iret (v := (-1)) hx hb hr (fun t ht hW => ⟨(-1), rfl, (Option.some.inj hF), ht⟩) (fun _ h => by cases h) dd_P_codeAt_22
  · have hF := jv_f c_4 hF
    refine lv_iload_n hx hb dd_P_codeAt_4 rfl (lv_at hl 1 rfl) ?_
    refine lv_aload_n hx hb dd_P_codeAt_5 rfl (lv_at hl 0 rfl) ?_
    refine va_get (D := (dC, dI)) (ci := 1) (v := .int zp) (C := cn_P) (T := tt_P) (N := 2) hx hb ht in_P hown hK hP 0 rfl rfl 1 (by decide) (ht _ tw_1_28) (fun _ h9 => h9) rfl dd_P_codeAt_6 ?_
    refine lv_icmp_ge (tgt := 21) hx hb dd_P_codeAt_9 (by decide) (fun c_5 => ?_) (fun c_5 => ?_)
    · have hF := jv_t c_5 hF
      refine lv_iconst (v := (-1)) hx hb dd_P_codeAt_21 (by decide) ?_
      subst hQ
      exact W.iret (v := (-1)) hx hb hr (fun t ht hW => ⟨(-1), rfl, (Option.some.inj hF), ht⟩) (fun _ h => by cases h) dd_P_codeAt_22
    · have hF := jv_f c_5 hF
      refine lv_aload_n hx hb dd_P_codeAt_12 rfl (lv_at hl 0 rfl) ?_
      refine va_get (D := (dC, dI)) (ci := 1) (v := .ref h1) (C := cn_P) (T := tt_P) (N := 2) hx hb ht in_P hown hK hP 0 rfl rfl 0 (by decide) (ht _ tw_1_27) (fun _ h9 => h9) rfl dd_P_codeAt_13 ?_
      refine lv_iload_n hx hb dd_P_codeAt_16 rfl (lv_at hl 1 rfl) ?_
      obtain ⟨g_6, hF⟩ := jv_gi hF
      refine va_cald hx hb hK hP 1 2 rfl rfl (jv_in g_6) dd_P_codeAt_17 ?_
      refine lv_goto (tgt := 22) hx hb dd_P_codeAt_18 (by decide) ?_
      subst hQ
      exact W.iret (v := ch x1.toNatClampNeg) hx hb hr (fun t ht hW => ⟨ch x1.toNatClampNeg, rfl, (Option.some.inj hF), ht⟩) (fun _ h => by cases h) dd_P_codeAt_22
set_option maxHeartbeats 40000000 in
set_option maxRecDepth 100000 in
theorem c_P_add (l : Launch) (dC : Nat → ClassId) (dI : Nat → Nat → Nat) (cI cL cC cZ : ClassId) (h0 h1 : Nat) (sz : Nat) (zp : Int32) (ch : Nat → Int32) (x1 : Int32) (out : Int32 × Int32 × (Nat → Int32)) (hF : fn_P_add zp ch x1 = some out) : Met l yy_P_add ws_P_add { frames := 0, cells := 0, slots := 0, locals := 0 } (mP_ (dC, dI) (tk_ cI cL cC cZ) [(h0, .inr (1, [.ref h1, .int zp])), (h1, .inl (cC, 3000, .inl ch))] sz [.ref h0, .int x1]) (va_Qi (fun r (_ : Unit) => r = out.1) (mB_ (dC, dI) (tk_ cI cL cC cZ) [(h0, .inr (1, [.ref h1, .int out.2.1])), (h1, .inl (cC, 3000, .inl out.2.2))] (va_A [(h0, .inr (1, [.ref h1, .int zp])), (h1, .inl (cC, 3000, .inl ch))] sz)) (va_A [(h0, .inr (1, [.ref h1, .int zp])), (h1, .inl (cC, 3000, .inl ch))] sz)) 0 0 (va_A [(h0, .inr (1, [.ref h1, .int zp])), (h1, .inl (cC, 3000, .inl ch))] sz) := by
  refine Met.ofW (cc := cc_P_add) (maxL := 2) (ret := (some .boolean)) (by decide) rfl ?_
  intro p e s m args below meth c s₁ B hml hv
  obtain ⟨hargs, hsz, hP, hK, hD0⟩ := hv
  have hx := B.exec
  have hb := B.bytes
  have hr := B.returns
  have hts := atoms_spec (ws := ws_P_add) B.pre
  have ht : ∀ w ∈ TB_, w.before args s = true := fun w h => hts w (List.mem_cons_of_mem _ h)
  have hown : s.vm.findClass cn_P = some m.cls := findClass_of_methodNamed B.named
  have hlocks := B.notSynchronized
  subst hsz
  have hD := hD0.self (sz := s.heap.size)
  generalize hAe : va_A [(h0, .inr (1, [.ref h1, .int zp])), (h1, .inl (cC, 3000, .inl ch))] s.heap.size = A at hD ⊢
  have hA : ∀ q : Nat, s.heap.size ≤ q → A q := fun q h => by rw [← hAe]; exact Or.inr h
  have hS : va_S A s.heap s.heap [] := va_S.rf
  have hP : va_P (dC, dI) vwCl [(h0, .inr (1, [.ref h1, .int zp])), (h1, .inl (cC, 3000, .inl ch))] s.heap := hP
  have hl := lv_entry [.ref h0, .int x1] (n := 2) (Nat.le_of_ble_eq_true rfl)
  have he : entryFrame m args 2 = _ := (congrArg (fun a => entryFrame m a 2) hargs).trans (lg_entry_eq m [.ref h0, .int x1] 2)
  rw [he]
  generalize (lg_sl [.ref h0, .int x1] ++ List.replicate (2 - (lg_sl [.ref h0, .int x1]).length) Slot.unset).toArray = ls at hl ⊢
  have hl : lv_has ls 2 [(0, .ref h0), (1, .int x1)] := hl
  generalize hQ : MQ below _ args s _ _ _ = Q
  unfold fn_P_add at hF
  refine lv_aload_n hx hb dd_P_add_0 rfl (lv_at hl 0 rfl) ?_
  refine va_get (D := (dC, dI)) (ci := 1) (v := .int zp) (C := cn_P) (T := tt_P) (N := 2) hx hb ht in_P hown hK hP 0 rfl rfl 1 (by decide) (ht _ tw_1_28) (fun _ h9 => h9) rfl dd_P_add_1 ?_
  refine lv_sipush (v := 3000) hx hb dd_P_add_4 (by decide) ?_
  refine lv_icmp_lt (tgt := 12) hx hb dd_P_add_7 (by decide) (fun c_7 => ?_) (fun c_7 => ?_)
  · have hF := jv_t c_7 hF
    refine lv_aload_n hx hb dd_P_add_12 rfl (lv_at hl 0 rfl) ?_
    refine va_get (D := (dC, dI)) (ci := 1) (v := .ref h1) (C := cn_P) (T := tt_P) (N := 2) hx hb ht in_P hown hK hP 0 rfl rfl 0 (by decide) (ht _ tw_1_27) (fun _ h9 => h9) rfl dd_P_add_13 ?_
    refine lv_aload_n hx hb dd_P_add_16 rfl (lv_at hl 0 rfl) ?_
    refine va_get (D := (dC, dI)) (ci := 1) (v := .int zp) (C := cn_P) (T := tt_P) (N := 2) hx hb ht in_P hown hK hP 0 rfl rfl 1 (by decide) (ht _ tw_1_28) (fun _ h9 => h9) rfl dd_P_add_17 ?_
    refine lv_iload_n hx hb dd_P_add_20 rfl (lv_at hl 1 rfl) ?_
    obtain ⟨g_8, hF⟩ := jv_gi hF
    refine va_cast hx hb hK hP hD hS 1 2 rfl rfl (jv_in g_8) dd_P_add_21 (fun H_9 locs_10 hP hD hS => ?_)
    have hP : va_P (dC, dI) vwCl [(h0, .inr (1, [.ref h1, .int zp])), (h1, .inl (cC, 3000, .inl (upd ch zp.toNatClampNeg (vp_nar .char x1))))] H_9 := hP
    have hD : va_D A [(h0, .inr (1, [.ref h1, .int zp])), (h1, .inl (cC, 3000, .inl (upd ch zp.toNatClampNeg (vp_nar .char x1))))] := hD
    refine lv_aload_n hx hb dd_P_add_22 rfl (lv_at hl 0 rfl) ?_
    refine lv_dup hx hb dd_P_add_23 rfl ?_
    refine va_get (D := (dC, dI)) (ci := 1) (v := .int zp) (C := cn_P) (T := tt_P) (N := 2) hx hb ht in_P hown hK hP 0 rfl rfl 1 (by decide) (ht _ tw_1_28) (fun _ h9 => h9) rfl dd_P_add_24 ?_
    refine lv_iconst (v := 1) hx hb dd_P_add_27 (by decide) ?_
    refine lv_iadd hx hb dd_P_add_28 ?_
    refine va_put (D := (dC, dI)) (ci := 1) (v := .int (zp + 1)) (ty := .int) (C := cn_P) (T := tt_P) (N := 2) hx hb ht in_P ty_P tyok_P nm_P hown hK hP hD hS 0 rfl rfl 1 (by decide) (ht _ tw_1_28) (fun _ h9 => h9) rfl (by decide +kernel) rfl rfl (Nat.le_of_ble_eq_true rfl) dd_P_add_29 (fun H_11 locs_12 hP hD hS => ?_)
    have hP : va_P (dC, dI) vwCl [(h0, .inr (1, [.ref h1, .int (zp + 1)])), (h1, .inl (cC, 3000, .inl (upd ch zp.toNatClampNeg (vp_nar .char x1))))] H_11 := hP
    have hD : va_D A [(h0, .inr (1, [.ref h1, .int (zp + 1)])), (h1, .inl (cC, 3000, .inl (upd ch zp.toNatClampNeg (vp_nar .char x1))))] := hD
    refine lv_iconst (v := 1) hx hb dd_P_add_32 (by decide) ?_
    subst hQ
    obtain rfl := Option.some.inj hF
    exact W.zret (v := 1) hx hb hr rfl (fun t ht hW => ⟨⟨1, (), rfl, rfl, by rw [ht]; exact hP, va_K.moved hW.alike hK, hD⟩, hS.F ht⟩) hS.2.2 dd_P_add_33
  · have hF := jv_f c_7 hF
    refine lv_iconst (v := 0) hx hb dd_P_add_10 (by decide) ?_
    subst hQ
    obtain rfl := Option.some.inj hF
    exact W.zret (v := 0) hx hb hr rfl (fun t ht hW => ⟨⟨0, (), rfl, rfl, by rw [ht]; exact hP, va_K.moved hW.alike hK, hD⟩, hS.F ht⟩) hS.2.2 dd_P_add_11
set_option maxHeartbeats 40000000 in
set_option maxRecDepth 100000 in
theorem c_P_replace (l : Launch) (dC : Nat → ClassId) (dI : Nat → Nat → Nat) (cI cL cC cZ : ClassId) (h0 h1 : Nat) (sz : Nat) (zp : Int32) (ch : Nat → Int32) (x1 : Int32) (x2 : Int32) (out : Int32 × (Nat → Int32)) (hF : fn_P_replace zp ch x1 x2 = some out) : Met l yy_P_replace ws_P_replace { frames := 0, cells := 0, slots := 0, locals := 0 } (mP_ (dC, dI) (tk_ cI cL cC cZ) [(h0, .inr (1, [.ref h1, .int zp])), (h1, .inl (cC, 3000, .inl ch))] sz [.ref h0, .int x1, .int x2]) (va_Qi (fun r (_ : Unit) => r = out.1) (mB_ (dC, dI) (tk_ cI cL cC cZ) [(h0, .inr (1, [.ref h1, .int zp])), (h1, .inl (cC, 3000, .inl out.2))] (va_A [(h0, .inr (1, [.ref h1, .int zp])), (h1, .inl (cC, 3000, .inl ch))] sz)) (va_A [(h0, .inr (1, [.ref h1, .int zp])), (h1, .inl (cC, 3000, .inl ch))] sz)) 0 0 (va_A [(h0, .inr (1, [.ref h1, .int zp])), (h1, .inl (cC, 3000, .inl ch))] sz) := by
  refine Met.ofW (cc := cc_P_replace) (maxL := 3) (ret := (some .boolean)) (by decide) rfl ?_
  intro p e s m args below meth c s₁ B hml hv
  obtain ⟨hargs, hsz, hP, hK, hD0⟩ := hv
  have hx := B.exec
  have hb := B.bytes
  have hr := B.returns
  have hts := atoms_spec (ws := ws_P_replace) B.pre
  have ht : ∀ w ∈ TB_, w.before args s = true := fun w h => hts w (List.mem_cons_of_mem _ h)
  have hown : s.vm.findClass cn_P = some m.cls := findClass_of_methodNamed B.named
  have hlocks := B.notSynchronized
  subst hsz
  have hD := hD0.self (sz := s.heap.size)
  generalize hAe : va_A [(h0, .inr (1, [.ref h1, .int zp])), (h1, .inl (cC, 3000, .inl ch))] s.heap.size = A at hD ⊢
  have hA : ∀ q : Nat, s.heap.size ≤ q → A q := fun q h => by rw [← hAe]; exact Or.inr h
  have hS : va_S A s.heap s.heap [] := va_S.rf
  have hP : va_P (dC, dI) vwCl [(h0, .inr (1, [.ref h1, .int zp])), (h1, .inl (cC, 3000, .inl ch))] s.heap := hP
  have hl := lv_entry [.ref h0, .int x1, .int x2] (n := 3) (Nat.le_of_ble_eq_true rfl)
  have he : entryFrame m args 3 = _ := (congrArg (fun a => entryFrame m a 3) hargs).trans (lg_entry_eq m [.ref h0, .int x1, .int x2] 3)
  rw [he]
  generalize (lg_sl [.ref h0, .int x1, .int x2] ++ List.replicate (3 - (lg_sl [.ref h0, .int x1, .int x2]).length) Slot.unset).toArray = ls at hl ⊢
  have hl : lv_has ls 3 [(0, .ref h0), (1, .int x1), (2, .int x2)] := hl
  generalize hQ : MQ below _ args s _ _ _ = Q
  unfold fn_P_replace at hF
  refine lv_iload_n hx hb dd_P_replace_0 rfl (lv_at hl 1 rfl) ?_
  refine lv_if_lt (tgt := 12) hx hb dd_P_replace_1 (by decide) (fun c_6 => ?_) (fun c_6 => ?_)
  · have hF := jv_t c_6 hF
    refine lv_iconst (v := 0) hx hb dd_P_replace_12 (by decide) ?_
    subst hQ
    obtain rfl := Option.some.inj hF
    exact W.zret (v := 0) hx hb hr rfl (fun t ht hW => ⟨⟨0, (), rfl, rfl, by rw [ht]; exact hP, va_K.moved hW.alike hK, hD⟩, hS.F ht⟩) hS.2.2 dd_P_replace_13
  · have hF := jv_f c_6 hF
    refine lv_iload_n hx hb dd_P_replace_4 rfl (lv_at hl 1 rfl) ?_
    refine lv_aload_n hx hb dd_P_replace_5 rfl (lv_at hl 0 rfl) ?_
    refine va_get (D := (dC, dI)) (ci := 1) (v := .int zp) (C := cn_P) (T := tt_P) (N := 2) hx hb ht in_P hown hK hP 0 rfl rfl 1 (by decide) (ht _ tw_1_28) (fun _ h9 => h9) rfl dd_P_replace_6 ?_
    refine lv_icmp_lt (tgt := 14) hx hb dd_P_replace_9 (by decide) (fun c_7 => ?_) (fun c_7 => ?_)
    · have hF := jv_t c_7 hF
      refine lv_aload_n hx hb dd_P_replace_14 rfl (lv_at hl 0 rfl) ?_
      refine va_get (D := (dC, dI)) (ci := 1) (v := .ref h1) (C := cn_P) (T := tt_P) (N := 2) hx hb ht in_P hown hK hP 0 rfl rfl 0 (by decide) (ht _ tw_1_27) (fun _ h9 => h9) rfl dd_P_replace_15 ?_
      refine lv_iload_n hx hb dd_P_replace_18 rfl (lv_at hl 1 rfl) ?_
      refine lv_iload_n hx hb dd_P_replace_19 rfl (lv_at hl 2 rfl) ?_
      obtain ⟨g_8, hF⟩ := jv_gi hF
      refine va_cast hx hb hK hP hD hS 1 2 rfl rfl (jv_in g_8) dd_P_replace_20 (fun H_9 locs_10 hP hD hS => ?_)
      have hP : va_P (dC, dI) vwCl [(h0, .inr (1, [.ref h1, .int zp])), (h1, .inl (cC, 3000, .inl (upd ch x1.toNatClampNeg (vp_nar .char x2))))] H_9 := hP
      have hD : va_D A [(h0, .inr (1, [.ref h1, .int zp])), (h1, .inl (cC, 3000, .inl (upd ch x1.toNatClampNeg (vp_nar .char x2))))] := hD
      refine lv_iconst (v := 1) hx hb dd_P_replace_21 (by decide) ?_
      subst hQ
      obtain rfl := Option.some.inj hF
      exact W.zret (v := 1) hx hb hr rfl (fun t ht hW => ⟨⟨1, (), rfl, rfl, by rw [ht]; exact hP, va_K.moved hW.alike hK, hD⟩, hS.F ht⟩) hS.2.2 dd_P_replace_22
    · have hF := jv_f c_7 hF
      refine lv_iconst (v := 0) hx hb dd_P_replace_12 (by decide) ?_
      subst hQ
      obtain rfl := Option.some.inj hF
      exact W.zret (v := 0) hx hb hr rfl (fun t ht hW => ⟨⟨0, (), rfl, rfl, by rw [ht]; exact hP, va_K.moved hW.alike hK, hD⟩, hS.F ht⟩) hS.2.2 dd_P_replace_13
set_option maxHeartbeats 40000000 in
set_option maxRecDepth 100000 in
theorem c_P_shorten (l : Launch) (dC : Nat → ClassId) (dI : Nat → Nat → Nat) (cI cL cC cZ : ClassId) (h0 h1 : Nat) (sz : Nat) (zp : Int32) (ch : Nat → Int32) (x1 : Int32) (out : Int32 × Int32) (hF : fn_P_shorten zp x1 = some out) : Met l yy_P_shorten ws_P_shorten { frames := 0, cells := 0, slots := 0, locals := 0 } (mP_ (dC, dI) (tk_ cI cL cC cZ) [(h0, .inr (1, [.ref h1, .int zp])), (h1, .inl (cC, 3000, .inl ch))] sz [.ref h0, .int x1]) (va_Qi (fun r (_ : Unit) => r = out.1) (mB_ (dC, dI) (tk_ cI cL cC cZ) [(h0, .inr (1, [.ref h1, .int out.2])), (h1, .inl (cC, 3000, .inl ch))] (va_A [(h0, .inr (1, [.ref h1, .int zp])), (h1, .inl (cC, 3000, .inl ch))] sz)) (va_A [(h0, .inr (1, [.ref h1, .int zp])), (h1, .inl (cC, 3000, .inl ch))] sz)) 0 0 (va_A [(h0, .inr (1, [.ref h1, .int zp])), (h1, .inl (cC, 3000, .inl ch))] sz) := by
  refine Met.ofW (cc := cc_P_shorten) (maxL := 2) (ret := (some .boolean)) (by decide) rfl ?_
  intro p e s m args below meth c s₁ B hml hv
  obtain ⟨hargs, hsz, hP, hK, hD0⟩ := hv
  have hx := B.exec
  have hb := B.bytes
  have hr := B.returns
  have hts := atoms_spec (ws := ws_P_shorten) B.pre
  have ht : ∀ w ∈ TB_, w.before args s = true := fun w h => hts w (List.mem_cons_of_mem _ h)
  have hown : s.vm.findClass cn_P = some m.cls := findClass_of_methodNamed B.named
  have hlocks := B.notSynchronized
  subst hsz
  have hD := hD0.self (sz := s.heap.size)
  generalize hAe : va_A [(h0, .inr (1, [.ref h1, .int zp])), (h1, .inl (cC, 3000, .inl ch))] s.heap.size = A at hD ⊢
  have hA : ∀ q : Nat, s.heap.size ≤ q → A q := fun q h => by rw [← hAe]; exact Or.inr h
  have hS : va_S A s.heap s.heap [] := va_S.rf
  have hP : va_P (dC, dI) vwCl [(h0, .inr (1, [.ref h1, .int zp])), (h1, .inl (cC, 3000, .inl ch))] s.heap := hP
  have hl := lv_entry [.ref h0, .int x1] (n := 2) (Nat.le_of_ble_eq_true rfl)
  have he : entryFrame m args 2 = _ := (congrArg (fun a => entryFrame m a 2) hargs).trans (lg_entry_eq m [.ref h0, .int x1] 2)
  rw [he]
  generalize (lg_sl [.ref h0, .int x1] ++ List.replicate (2 - (lg_sl [.ref h0, .int x1]).length) Slot.unset).toArray = ls at hl ⊢
  have hl : lv_has ls 2 [(0, .ref h0), (1, .int x1)] := hl
  generalize hQ : MQ below _ args s _ _ _ = Q
  unfold fn_P_shorten at hF
  refine lv_iload_n hx hb dd_P_shorten_0 rfl (lv_at hl 1 rfl) ?_
  refine lv_if_lt (tgt := 12) hx hb dd_P_shorten_1 (by decide) (fun c_5 => ?_) (fun c_5 => ?_)
  · have hF := jv_t c_5 hF
    refine lv_iconst (v := 0) hx hb dd_P_shorten_12 (by decide) ?_
    subst hQ
    obtain rfl := Option.some.inj hF
    exact W.zret (v := 0) hx hb hr rfl (fun t ht hW => ⟨⟨0, (), rfl, rfl, by rw [ht]; exact hP, va_K.moved hW.alike hK, hD⟩, hS.F ht⟩) hS.2.2 dd_P_shorten_13
  · have hF := jv_f c_5 hF
    refine lv_iload_n hx hb dd_P_shorten_4 rfl (lv_at hl 1 rfl) ?_
    refine lv_aload_n hx hb dd_P_shorten_5 rfl (lv_at hl 0 rfl) ?_
    refine va_get (D := (dC, dI)) (ci := 1) (v := .int zp) (C := cn_P) (T := tt_P) (N := 2) hx hb ht in_P hown hK hP 0 rfl rfl 1 (by decide) (ht _ tw_1_28) (fun _ h9 => h9) rfl dd_P_shorten_6 ?_
    refine lv_icmp_le (tgt := 14) hx hb dd_P_shorten_9 (by decide) (fun c_6 => ?_) (fun c_6 => ?_)
    · have hF := jv_t c_6 hF
      refine lv_aload_n hx hb dd_P_shorten_14 rfl (lv_at hl 0 rfl) ?_
      refine lv_iload_n hx hb dd_P_shorten_15 rfl (lv_at hl 1 rfl) ?_
      refine va_put (D := (dC, dI)) (ci := 1) (v := .int x1) (ty := .int) (C := cn_P) (T := tt_P) (N := 2) hx hb ht in_P ty_P tyok_P nm_P hown hK hP hD hS 0 rfl rfl 1 (by decide) (ht _ tw_1_28) (fun _ h9 => h9) rfl (by decide +kernel) rfl rfl (Nat.le_of_ble_eq_true rfl) dd_P_shorten_16 (fun H_7 locs_8 hP hD hS => ?_)
      have hP : va_P (dC, dI) vwCl [(h0, .inr (1, [.ref h1, .int x1])), (h1, .inl (cC, 3000, .inl ch))] H_7 := hP
      have hD : va_D A [(h0, .inr (1, [.ref h1, .int x1])), (h1, .inl (cC, 3000, .inl ch))] := hD
      refine lv_iconst (v := 1) hx hb dd_P_shorten_19 (by decide) ?_
      subst hQ
      obtain rfl := Option.some.inj hF
      exact W.zret (v := 1) hx hb hr rfl (fun t ht hW => ⟨⟨1, (), rfl, rfl, by rw [ht]; exact hP, va_K.moved hW.alike hK, hD⟩, hS.F ht⟩) hS.2.2 dd_P_shorten_20
    · have hF := jv_f c_6 hF
      refine lv_iconst (v := 0) hx hb dd_P_shorten_12 (by decide) ?_
      subst hQ
      obtain rfl := Option.some.inj hF
      exact W.zret (v := 0) hx hb hr rfl (fun t ht hW => ⟨⟨0, (), rfl, rfl, by rw [ht]; exact hP, va_K.moved hW.alike hK, hD⟩, hS.F ht⟩) hS.2.2 dd_P_shorten_13
set_option maxHeartbeats 40000000 in
set_option maxRecDepth 100000 in
theorem c_P_addText (l : Launch) (dC : Nat → ClassId) (dI : Nat → Nat → Nat) (cI cL cC cZ : ClassId) (adK adV : Nat → Nat) (h0 h1 : Nat) (sz : Nat) (zp : Int32) (ch : Nat → Int32) (x1 : Nat) (out : Int32 × (Nat → Int32)) (hF : fn_P_addText zp ch x1 = some out) : Met l yy_P_addText ws_P_addText { frames := 4, cells := 0, slots := 0, locals := 85 } (mS_ adK adV (dC, dI) (tk_ cI cL cC cZ) [(h0, .inr (1, [.ref h1, .int zp])), (h1, .inl (cC, 3000, .inl ch))] sz [.ref h0, .ref (adK x1)]) (va_Qv (fun _ : Unit => True) (mB_ (dC, dI) (tk_ cI cL cC cZ) [(h0, .inr (1, [.ref h1, .int out.1])), (h1, .inl (cC, 3000, .inl out.2))] (va_A [(h0, .inr (1, [.ref h1, .int zp])), (h1, .inl (cC, 3000, .inl ch))] sz)) (va_A [(h0, .inr (1, [.ref h1, .int zp])), (h1, .inl (cC, 3000, .inl ch))] sz)) 0 0 (va_A [(h0, .inr (1, [.ref h1, .int zp])), (h1, .inl (cC, 3000, .inl ch))] sz) := by
  refine Met.ofW (cc := cc_P_addText) (maxL := 3) (ret := none) (by decide) rfl ?_
  intro p e s m args below meth c s₁ B hml hv
  obtain ⟨hargs, hsz, hP, hK, hD0, hV⟩ := hv
  have hx := B.exec
  have hb := B.bytes
  have hr := B.returns
  have hts := atoms_spec (ws := ws_P_addText) B.pre
  have ht : ∀ w ∈ TB_, w.before args s = true := fun w h => hts w (List.mem_cons_of_mem _ h)
  have hown : s.vm.findClass cn_P = some m.cls := findClass_of_methodNamed B.named
  have hlocks := B.notSynchronized
  subst hsz
  have hD := hD0.self (sz := s.heap.size)
  generalize hAe : va_A [(h0, .inr (1, [.ref h1, .int zp])), (h1, .inl (cC, 3000, .inl ch))] s.heap.size = A at hD ⊢ hV
  have hA : ∀ q : Nat, s.heap.size ≤ q → A q := fun q h => by rw [← hAe]; exact Or.inr h
  have hS : va_S A s.heap s.heap [] := va_S.rf
  have hP : va_P (dC, dI) vwCl [(h0, .inr (1, [.ref h1, .int zp])), (h1, .inl (cC, 3000, .inl ch))] s.heap := hP
  have hl := lv_entry [.ref h0, .ref (adK x1)] (n := 3) (Nat.le_of_ble_eq_true rfl)
  have he : entryFrame m args 3 = _ := (congrArg (fun a => entryFrame m a 3) hargs).trans (lg_entry_eq m [.ref h0, .ref (adK x1)] 3)
  rw [he]
  generalize (lg_sl [.ref h0, .ref (adK x1)] ++ List.replicate (3 - (lg_sl [.ref h0, .ref (adK x1)]).length) Slot.unset).toArray = ls at hl ⊢
  have hl : lv_has ls 3 [(0, .ref h0), (1, .ref (adK x1))] := hl
  generalize hQ : MQ below _ args s _ _ _ = Q
  have lp2 : ∀ (n2 : Nat), ∀ (zp : Int32) (ch : Nat → Int32) (x1 : Nat) (x2 : Int32), fl_P_addText_2   n2 (zp, ch, x1, x2) = some out → ∀ (H : Heap) (locs : List Loc), va_P (dC, dI) vwCl [(h0, .inr (1, [.ref h1, .int zp])), (h1, .inl (cC, 3000, .inl ch))] H → va_D A [(h0, .inr (1, [.ref h1, .int zp])), (h1, .inl (cC, 3000, .inl ch))] → va_S A s.heap H locs → ∀ ls : Array Slot, lv_has ls 3 [(0, .ref h0), (1, .ref (adK x1)), (2, .int x2)] → W p l e (headSpec ws_P_addText { frames := 4, cells := 0, slots := 0, locals := 85 }).room s m args below meth c H locs 0 0 Q (F0 m 2 ls []) := by
    intro n2
    induction n2 with
    | zero =>
      intro zp ch x1 x2 hF
      exact (jv_no hF).elim
    | succ n2 ih2 =>
      intro zp ch x1 x2 hF H locs hP hD hS ls hl
      have hF : fb_P_addText_2   (fl_P_addText_2   n2) zp ch x1 x2 = some out := hF
      unfold fb_P_addText_2 at hF
      refine lv_iload_n hx hb dd_P_addText_2 rfl (lv_at hl 2 rfl) ?_
      refine lv_aload_n hx hb dd_P_addText_3 rfl (lv_at hl 1 rfl) ?_
      obtain ⟨o_4, ho_4, hF⟩ := jv_bi hF
      refine jv_ci (va_runV (C := "java/lang/String") (As := []) (rest := [.int x2]) ⟨hx, hb, hml, hown, ht⟩ (c_S_length l dC dI cI cL cC cZ adK adV H.size x1  _ ho_4) (cwV 0 ht (gi_V tw_1_198 tw_1_199 tw_1_200 tw_1_7 tw_1_201) rfl rfl rfl (by decide +kernel) ⟨Nat.le_of_ble_eq_true rfl, Nat.le_of_ble_eq_true rfl⟩) (jv_sv hK hP hD hS hA hV [] rfl (by decide) rfl (sv_length hV ho_4 hS)) rfl rfl hl.1 rfl (lv_room (Nat.le_of_ble_eq_true rfl)) dd_P_addText_4 ⟨Nat.le_of_ble_eq_true rfl, Nat.le_of_ble_eq_true rfl⟩) ?_
      refine lv_icmp_ge (tgt := 26) hx hb dd_P_addText_7 (by decide) (fun c_4 => ?_) (fun c_4 => ?_)
      · have hF := jv_t c_4 hF
        subst hQ
        obtain rfl := Option.some.inj hF
        exact W.vret hx hb hr (fun t ht hW => ⟨⟨(), rfl, trivial, by rw [ht]; exact hP, va_K.moved hW.alike hK, hD⟩, hS.F ht⟩) hS.2.2 dd_P_addText_26
      · have hF := jv_f c_4 hF
        refine lv_aload_n hx hb dd_P_addText_10 rfl (lv_at hl 0 rfl) ?_
        refine lv_aload_n hx hb dd_P_addText_11 rfl (lv_at hl 1 rfl) ?_
        refine lv_iload_n hx hb dd_P_addText_12 rfl (lv_at hl 2 rfl) ?_
        obtain ⟨o_13, ho_13, hF⟩ := jv_bi hF
        refine jv_ci (va_runV (C := "java/lang/String") (As := [.int x2]) (rest := [.ref h0]) ⟨hx, hb, hml, hown, ht⟩ (c_S_charAt l dC dI cI cL cC cZ adK adV H.size x1 x2 _ ho_13) (cwV 1 ht (gi_V tw_1_208 tw_1_209 tw_1_210 tw_1_7 tw_1_211) rfl rfl rfl (by decide +kernel) ⟨Nat.le_of_ble_eq_true rfl, Nat.le_of_ble_eq_true rfl⟩) (jv_sv hK hP hD hS hA hV [] rfl (by decide) rfl (sv_charAt hV ho_13 hS)) rfl rfl hl.1 rfl (lv_room (Nat.le_of_ble_eq_true rfl)) dd_P_addText_13 ⟨Nat.le_of_ble_eq_true rfl, Nat.le_of_ble_eq_true rfl⟩) ?_
        obtain ⟨o_16, ho_16, hF⟩ := jv_bi hF
        refine jv_mi (wr := []) (w1 := [(h0, .inr (1, [.ref h1, .int o_16.2.1])), (h1, .inl (cC, 3000, .inl o_16.2.2))]) (va_runV (C := cn_P) (As := [.int o_13]) (rest := []) ⟨hx, hb, hml, hown, ht⟩ (c_P_add l dC dI cI cL cC cZ h0 h1 H.size zp ch o_13 _ ho_16) (cwV 1 ht (gi_V tw_2_6 tw_2_7 tw_2_8 tw_1_2 tw_2_9) rfl rfl rfl (by decide +kernel) ⟨Nat.le_of_ble_eq_true rfl, Nat.le_of_ble_eq_true rfl⟩) (jv_pv hK hP hD [0, 1] rfl (by decide) rfl (va_recv hK hP (ci := 1) (q0 := 0) rfl rfl)) rfl rfl hl.1 rfl (lv_room (Nat.le_of_ble_eq_true rfl)) dd_P_addText_16 ⟨Nat.le_of_ble_eq_true rfl, Nat.le_of_ble_eq_true rfl⟩) hP hD hS hA [0, 1] [] rfl rfl (by decide) (by decide) (fun H_5 locs_6 hP hD hS => ?_)
        have hP : va_P (dC, dI) vwCl [(h0, .inr (1, [.ref h1, .int o_16.2.1])), (h1, .inl (cC, 3000, .inl o_16.2.2))] H_5 := hP.sub [0, 1] rfl
        have hD : va_D A [(h0, .inr (1, [.ref h1, .int o_16.2.1])), (h1, .inl (cC, 3000, .inl o_16.2.2))] := hD.sub [0, 1] (by decide) rfl
        refine lv_pop hx hb dd_P_addText_19 rfl ?_
        refine lv_iinc (v := x2 + 1) (lv' := [(2, .int (x2 + 1)), (0, .ref h0), (1, .ref (adK x1))]) hx hb dd_P_addText_20 hl (k := 2) rfl rfl (by decide) rfl (fun ls hl => ?_)
        refine lv_goto (tgt := 2) hx hb dd_P_addText_23 (by decide) ?_
        exact ih2 o_16.2.1 o_16.2.2 x1 (x2 + 1) hF H_5 locs_6 hP hD hS ls (lv_sub hl [1, 2, 0] rfl)
  unfold fn_P_addText at hF
  refine lv_iconst (v := 0) hx hb dd_P_addText_0 (by decide) ?_
  refine lv_istore_n (lv' := [(2, .int 0), (0, .ref h0), (1, .ref (adK x1))]) hx hb dd_P_addText_1 rfl hl (by decide) rfl (fun ls hl => ?_)
  exact lp2 4000 zp ch x1 0 hF s.heap [] hP hD hS ls (lv_sub hl [1, 2, 0] rfl)
set_option maxHeartbeats 40000000 in
set_option maxRecDepth 100000 in
theorem c_P_addIndent (l : Launch) (dC : Nat → ClassId) (dI : Nat → Nat → Nat) (cI cL cC cZ : ClassId) (adK adV : Nat → Nat) (h0 h1 : Nat) (sz : Nat) (zp : Int32) (ch : Nat → Int32) (x1 : Int32) (out : Int32 × (Nat → Int32)) (hF : fn_P_addIndent zp ch x1 = some out) : Met l yy_P_addIndent ws_P_addIndent { frames := 5, cells := 0, slots := 0, locals := 107 } (mS_ adK adV (dC, dI) (tk_ cI cL cC cZ) [(h0, .inr (1, [.ref h1, .int zp])), (h1, .inl (cC, 3000, .inl ch))] sz [.ref h0, .int x1]) (va_Qv (fun _ : Unit => True) (mB_ (dC, dI) (tk_ cI cL cC cZ) [(h0, .inr (1, [.ref h1, .int out.1])), (h1, .inl (cC, 3000, .inl out.2))] (va_A [(h0, .inr (1, [.ref h1, .int zp])), (h1, .inl (cC, 3000, .inl ch))] sz)) (va_A [(h0, .inr (1, [.ref h1, .int zp])), (h1, .inl (cC, 3000, .inl ch))] sz)) 0 0 (va_A [(h0, .inr (1, [.ref h1, .int zp])), (h1, .inl (cC, 3000, .inl ch))] sz) := by
  refine Met.ofW (cc := cc_P_addIndent) (maxL := 3) (ret := none) (by decide) rfl ?_
  intro p e s m args below meth c s₁ B hml hv
  obtain ⟨hargs, hsz, hP, hK, hD0, hV⟩ := hv
  have hx := B.exec
  have hb := B.bytes
  have hr := B.returns
  have hts := atoms_spec (ws := ws_P_addIndent) B.pre
  have ht : ∀ w ∈ TB_, w.before args s = true := fun w h => hts w (List.mem_cons_of_mem _ h)
  have hown : s.vm.findClass cn_P = some m.cls := findClass_of_methodNamed B.named
  have hlocks := B.notSynchronized
  subst hsz
  have hD := hD0.self (sz := s.heap.size)
  generalize hAe : va_A [(h0, .inr (1, [.ref h1, .int zp])), (h1, .inl (cC, 3000, .inl ch))] s.heap.size = A at hD ⊢ hV
  have hA : ∀ q : Nat, s.heap.size ≤ q → A q := fun q h => by rw [← hAe]; exact Or.inr h
  have hS : va_S A s.heap s.heap [] := va_S.rf
  have hP : va_P (dC, dI) vwCl [(h0, .inr (1, [.ref h1, .int zp])), (h1, .inl (cC, 3000, .inl ch))] s.heap := hP
  have hl := lv_entry [.ref h0, .int x1] (n := 3) (Nat.le_of_ble_eq_true rfl)
  have he : entryFrame m args 3 = _ := (congrArg (fun a => entryFrame m a 3) hargs).trans (lg_entry_eq m [.ref h0, .int x1] 3)
  rw [he]
  generalize (lg_sl [.ref h0, .int x1] ++ List.replicate (3 - (lg_sl [.ref h0, .int x1]).length) Slot.unset).toArray = ls at hl ⊢
  have hl : lv_has ls 3 [(0, .ref h0), (1, .int x1)] := hl
  generalize hQ : MQ below _ args s _ _ _ = Q
  have lp2 : ∀ (n2 : Nat), ∀ (zp : Int32) (ch : Nat → Int32) (x1 : Int32) (x2 : Int32), fl_P_addIndent_2   n2 (zp, ch, x1, x2) = some out → ∀ (H : Heap) (locs : List Loc), va_P (dC, dI) vwCl [(h0, .inr (1, [.ref h1, .int zp])), (h1, .inl (cC, 3000, .inl ch))] H → va_D A [(h0, .inr (1, [.ref h1, .int zp])), (h1, .inl (cC, 3000, .inl ch))] → va_S A s.heap H locs → ∀ ls : Array Slot, lv_has ls 3 [(0, .ref h0), (1, .int x1), (2, .int x2)] → W p l e (headSpec ws_P_addIndent { frames := 5, cells := 0, slots := 0, locals := 107 }).room s m args below meth c H locs 0 0 Q (F0 m 2 ls []) := by
    intro n2
    induction n2 with
    | zero =>
      intro zp ch x1 x2 hF
      exact (jv_no hF).elim
    | succ n2 ih2 =>
      intro zp ch x1 x2 hF H locs hP hD hS ls hl
      have hF : fb_P_addIndent_2   (fl_P_addIndent_2   n2) zp ch x1 x2 = some out := hF
      unfold fb_P_addIndent_2 at hF
      refine lv_iload_n hx hb dd_P_addIndent_2 rfl (lv_at hl 2 rfl) ?_
      refine lv_iload_n hx hb dd_P_addIndent_3 rfl (lv_at hl 1 rfl) ?_
      refine lv_icmp_ge (tgt := 19) hx hb dd_P_addIndent_4 (by decide) (fun c_4 => ?_) (fun c_4 => ?_)
      · have hF := jv_t c_4 hF
        subst hQ
        obtain rfl := Option.some.inj hF
        exact W.vret hx hb hr (fun t ht hW => ⟨⟨(), rfl, trivial, by rw [ht]; exact hP, va_K.moved hW.alike hK, hD⟩, hS.F ht⟩) hS.2.2 dd_P_addIndent_19
      · have hF := jv_f c_4 hF
        refine lv_aload_n hx hb dd_P_addIndent_7 rfl (lv_at hl 0 rfl) ?_
        refine va_ldcS hx hb hown (sk_R (k := 10) hV rfl) dd_P_addIndent_8 ?_
        obtain ⟨o_10, ho_10, hF⟩ := jv_bi hF
        refine jv_mv (wr := []) (w1 := [(h0, .inr (1, [.ref h1, .int o_10.1])), (h1, .inl (cC, 3000, .inl o_10.2))]) (va_runV (C := cn_P) (As := [.ref (adK 1)]) (rest := []) ⟨hx, hb, hml, hown, ht⟩ (c_P_addText l dC dI cI cL cC cZ adK adV h0 h1 H.size zp ch 1 _ ho_10) (cwV 1 ht (gi_V tw_2_33 tw_1_195 tw_1_196 tw_1_2 tw_1_197) rfl rfl rfl (by decide +kernel) ⟨Nat.le_of_ble_eq_true rfl, Nat.le_of_ble_eq_true rfl⟩) (jv_sv hK hP hD hS hA hV [0, 1] rfl (by decide) rfl (va_recv hK hP (ci := 1) (q0 := 0) rfl rfl)) rfl rfl hl.1 rfl (lv_room (Nat.le_of_ble_eq_true rfl)) dd_P_addIndent_10 ⟨Nat.le_of_ble_eq_true rfl, Nat.le_of_ble_eq_true rfl⟩) hP hD hS hA [0, 1] [] rfl rfl (by decide) (by decide) (fun H_5 locs_6 hP hD hS => ?_)
        have hP : va_P (dC, dI) vwCl [(h0, .inr (1, [.ref h1, .int o_10.1])), (h1, .inl (cC, 3000, .inl o_10.2))] H_5 := hP.sub [0, 1] rfl
        have hD : va_D A [(h0, .inr (1, [.ref h1, .int o_10.1])), (h1, .inl (cC, 3000, .inl o_10.2))] := hD.sub [0, 1] (by decide) rfl
        refine lv_iinc (v := x2 + 1) (lv' := [(2, .int (x2 + 1)), (0, .ref h0), (1, .int x1)]) hx hb dd_P_addIndent_13 hl (k := 2) rfl rfl (by decide) rfl (fun ls hl => ?_)
        refine lv_goto (tgt := 2) hx hb dd_P_addIndent_16 (by decide) ?_
        exact ih2 o_10.1 o_10.2 x1 (x2 + 1) hF H_5 locs_6 hP hD hS ls (lv_sub hl [1, 2, 0] rfl)
  unfold fn_P_addIndent at hF
  refine lv_iconst (v := 0) hx hb dd_P_addIndent_0 (by decide) ?_
  refine lv_istore_n (lv' := [(2, .int 0), (0, .ref h0), (1, .int x1)]) hx hb dd_P_addIndent_1 rfl hl (by decide) rfl (fun ls hl => ?_)
  exact lp2 4000 zp ch x1 0 hF s.heap [] hP hD hS ls (lv_sub hl [1, 2, 0] rfl)
set_option maxHeartbeats 40000000 in
set_option maxRecDepth 100000 in
theorem c_P_addNumber (l : Launch) (dC : Nat → ClassId) (dI : Nat → Nat → Nat) (cI cL cC cZ : ClassId) (h0 h1 : Nat) (sz : Nat) (zp : Int32) (ch : Nat → Int32) (x1 : Int32) (out : Int32 × (Nat → Int32)) (hF : fn_P_addNumber zp ch x1 = some out) : Met l yy_P_addNumber ws_P_addNumber { frames := 1, cells := 0, slots := 0, locals := 21 } (mP_ (dC, dI) (tk_ cI cL cC cZ) [(h0, .inr (1, [.ref h1, .int zp])), (h1, .inl (cC, 3000, .inl ch))] sz [.ref h0, .int x1]) (va_Qv (fun _ : Unit => True) (mB_ (dC, dI) (tk_ cI cL cC cZ) [(h0, .inr (1, [.ref h1, .int out.1])), (h1, .inl (cC, 3000, .inl out.2))] (va_A [(h0, .inr (1, [.ref h1, .int zp])), (h1, .inl (cC, 3000, .inl ch))] sz)) (va_A [(h0, .inr (1, [.ref h1, .int zp])), (h1, .inl (cC, 3000, .inl ch))] sz)) 0 0 (va_A [(h0, .inr (1, [.ref h1, .int zp])), (h1, .inl (cC, 3000, .inl ch))] sz) := by
  refine Met.ofW (cc := cc_P_addNumber) (maxL := 2) (ret := none) (by decide) rfl ?_
  intro p e s m args below meth c s₁ B hml hv
  obtain ⟨hargs, hsz, hP, hK, hD0⟩ := hv
  have hx := B.exec
  have hb := B.bytes
  have hr := B.returns
  have hts := atoms_spec (ws := ws_P_addNumber) B.pre
  have ht : ∀ w ∈ TB_, w.before args s = true := fun w h => hts w (List.mem_cons_of_mem _ h)
  have hown : s.vm.findClass cn_P = some m.cls := findClass_of_methodNamed B.named
  have hlocks := B.notSynchronized
  subst hsz
  have hD := hD0.self (sz := s.heap.size)
  generalize hAe : va_A [(h0, .inr (1, [.ref h1, .int zp])), (h1, .inl (cC, 3000, .inl ch))] s.heap.size = A at hD ⊢
  have hA : ∀ q : Nat, s.heap.size ≤ q → A q := fun q h => by rw [← hAe]; exact Or.inr h
  have hS : va_S A s.heap s.heap [] := va_S.rf
  have hP : va_P (dC, dI) vwCl [(h0, .inr (1, [.ref h1, .int zp])), (h1, .inl (cC, 3000, .inl ch))] s.heap := hP
  have hl := lv_entry [.ref h0, .int x1] (n := 2) (Nat.le_of_ble_eq_true rfl)
  have he : entryFrame m args 2 = _ := (congrArg (fun a => entryFrame m a 2) hargs).trans (lg_entry_eq m [.ref h0, .int x1] 2)
  rw [he]
  generalize (lg_sl [.ref h0, .int x1] ++ List.replicate (2 - (lg_sl [.ref h0, .int x1]).length) Slot.unset).toArray = ls at hl ⊢
  have hl : lv_has ls 2 [(0, .ref h0), (1, .int x1)] := hl
  generalize hQ : MQ below _ args s _ _ _ = Q
  have bl19 : ∀ (zp : Int32) (ch : Nat → Int32) (x1 : Int32), fb_P_addNumber_19   zp ch x1 = some out → ∀ (H : Heap) (locs : List Loc), va_P (dC, dI) vwCl [(h0, .inr (1, [.ref h1, .int zp])), (h1, .inl (cC, 3000, .inl ch))] H → va_D A [(h0, .inr (1, [.ref h1, .int zp])), (h1, .inl (cC, 3000, .inl ch))] → va_S A s.heap H locs → ∀ ls : Array Slot, lv_has ls 2 [(0, .ref h0), (1, .int x1)] → W p l e (headSpec ws_P_addNumber { frames := 1, cells := 0, slots := 0, locals := 21 }).room s m args below meth c H locs 0 0 Q (F0 m 19 ls []) := by
    intro zp ch x1 hF H locs hP hD hS ls hl
    unfold fb_P_addNumber_19 at hF
    refine lv_aload_n hx hb dd_P_addNumber_19 rfl (lv_at hl 0 rfl) ?_
    refine lv_bipush (v := 48) hx hb dd_P_addNumber_20 (by decide) ?_
    refine lv_iload_n hx hb dd_P_addNumber_22 rfl (lv_at hl 1 rfl) ?_
    refine lv_bipush (v := 10) hx hb dd_P_addNumber_23 (by decide) ?_
    refine lv_irem hx hb dd_P_addNumber_25 (by decide) ?_
    refine lv_iadd hx hb dd_P_addNumber_26 ?_
    refine lv_i2c hx hb dd_P_addNumber_27 rfl ?_
    obtain ⟨o_28, ho_28, hF⟩ := jv_bi hF
    refine jv_mi (wr := []) (w1 := [(h0, .inr (1, [.ref h1, .int o_28.2.1])), (h1, .inl (cC, 3000, .inl o_28.2.2))]) (va_runV (C := cn_P) (As := [.int (((48 + (x1 - x1 / 10 * 10)).toUInt32 % 65536).toInt32)]) (rest := []) ⟨hx, hb, hml, hown, ht⟩ (c_P_add l dC dI cI cL cC cZ h0 h1 H.size zp ch (((48 + (x1 - x1 / 10 * 10)).toUInt32 % 65536).toInt32) _ ho_28) (cwV 1 ht (gi_V tw_2_6 tw_2_7 tw_2_8 tw_1_2 tw_2_9) rfl rfl rfl (by decide +kernel) ⟨Nat.le_of_ble_eq_true rfl, Nat.le_of_ble_eq_true rfl⟩) (jv_pv hK hP hD [0, 1] rfl (by decide) rfl (va_recv hK hP (ci := 1) (q0 := 0) rfl rfl)) rfl rfl hl.1 rfl (lv_room (Nat.le_of_ble_eq_true rfl)) dd_P_addNumber_28 ⟨Nat.le_of_ble_eq_true rfl, Nat.le_of_ble_eq_true rfl⟩) hP hD hS hA [0, 1] [] rfl rfl (by decide) (by decide) (fun H_6 locs_7 hP hD hS => ?_)
    have hP : va_P (dC, dI) vwCl [(h0, .inr (1, [.ref h1, .int o_28.2.1])), (h1, .inl (cC, 3000, .inl o_28.2.2))] H_6 := hP.sub [0, 1] rfl
    have hD : va_D A [(h0, .inr (1, [.ref h1, .int o_28.2.1])), (h1, .inl (cC, 3000, .inl o_28.2.2))] := hD.sub [0, 1] (by decide) rfl
    refine lv_pop hx hb dd_P_addNumber_31 rfl ?_
    subst hQ
    obtain rfl := Option.some.inj hF
    exact W.vret hx hb hr (fun t ht hW => ⟨⟨(), rfl, trivial, by rw [ht]; exact hP, va_K.moved hW.alike hK, hD⟩, hS.F ht⟩) hS.2.2 dd_P_addNumber_32
  unfold fn_P_addNumber at hF
  refine lv_iload_n hx hb dd_P_addNumber_0 rfl (lv_at hl 1 rfl) ?_
  refine lv_bipush (v := 10) hx hb dd_P_addNumber_1 (by decide) ?_
  refine lv_icmp_lt (tgt := 19) hx hb dd_P_addNumber_3 (by decide) (fun c_8 => ?_) (fun c_8 => ?_)
  · have hF := jv_t c_8 hF
    exact bl19 zp ch x1 hF s.heap [] hP hD hS ls (lv_sub hl [0, 1] rfl)
  · have hF := jv_f c_8 hF
    refine lv_aload_n hx hb dd_P_addNumber_6 rfl (lv_at hl 0 rfl) ?_
    refine lv_bipush (v := 48) hx hb dd_P_addNumber_7 (by decide) ?_
    refine lv_iload_n hx hb dd_P_addNumber_9 rfl (lv_at hl 1 rfl) ?_
    refine lv_bipush (v := 10) hx hb dd_P_addNumber_10 (by decide) ?_
    refine lv_idiv hx hb dd_P_addNumber_12 (by decide) ?_
    refine lv_iadd hx hb dd_P_addNumber_13 ?_
    refine lv_i2c hx hb dd_P_addNumber_14 rfl ?_
    obtain ⟨o_15, ho_15, hF⟩ := jv_bi hF
    refine jv_mi (wr := []) (w1 := [(h0, .inr (1, [.ref h1, .int o_15.2.1])), (h1, .inl (cC, 3000, .inl o_15.2.2))]) (va_runV (C := cn_P) (As := [.int (((48 + (x1 / 10)).toUInt32 % 65536).toInt32)]) (rest := []) ⟨hx, hb, hml, hown, ht⟩ (c_P_add l dC dI cI cL cC cZ h0 h1 s.heap.size zp ch (((48 + (x1 / 10)).toUInt32 % 65536).toInt32) _ ho_15) (cwV 1 ht (gi_V tw_2_6 tw_2_7 tw_2_8 tw_1_2 tw_2_9) rfl rfl rfl (by decide +kernel) ⟨Nat.le_of_ble_eq_true rfl, Nat.le_of_ble_eq_true rfl⟩) (jv_pv hK hP hD [0, 1] rfl (by decide) rfl (va_recv hK hP (ci := 1) (q0 := 0) rfl rfl)) rfl rfl hl.1 rfl (lv_room (Nat.le_of_ble_eq_true rfl)) dd_P_addNumber_15 ⟨Nat.le_of_ble_eq_true rfl, Nat.le_of_ble_eq_true rfl⟩) hP hD hS hA [0, 1] [] rfl rfl (by decide) (by decide) (fun H_9 locs_10 hP hD hS => ?_)
    have hP : va_P (dC, dI) vwCl [(h0, .inr (1, [.ref h1, .int o_15.2.1])), (h1, .inl (cC, 3000, .inl o_15.2.2))] H_9 := hP.sub [0, 1] rfl
    have hD : va_D A [(h0, .inr (1, [.ref h1, .int o_15.2.1])), (h1, .inl (cC, 3000, .inl o_15.2.2))] := hD.sub [0, 1] (by decide) rfl
    refine lv_pop hx hb dd_P_addNumber_18 rfl ?_
    exact bl19 o_15.2.1 o_15.2.2 x1 hF H_9 locs_10 hP hD hS ls (lv_sub hl [0, 1] rfl)
set_option maxHeartbeats 40000000 in
set_option maxRecDepth 100000 in
theorem c_P_cursor (l : Launch) (dC : Nat → ClassId) (dI : Nat → Nat → Nat) (cI cL cC cZ : ClassId) (h0 h1 : Nat) (sz : Nat) (zp : Int32) (ch : Nat → Int32)  (out : Int32 × Int32 × Int32) (hF : fn_P_cursor zp = some out) : Met l yy_P_cursor ws_P_cursor { frames := 2, cells := 1, slots := 4, locals := 34 } (mP_ (dC, dI) (tk_ cI cL cC cZ) [(h0, .inr (1, [.ref h1, .int zp])), (h1, .inl (cC, 3000, .inl ch))] sz [.ref h0]) (va_Qr (fun _ : Unit => True) (fun (_ : Unit) (z : Nat) t => va_P (dC, dI) vwCl [(h0, .inr (1, [.ref h1, .int zp])), (h1, .inl (cC, 3000, .inl ch)), (z, .inr (3, [.ref h1, .int out.1, .int out.2.1, .int out.2.2]))] t.heap ∧ va_K (dC, dI) vwCl (tk_ cI cL cC cZ) t ∧ va_D (va_A [(h0, .inr (1, [.ref h1, .int zp])), (h1, .inl (cC, 3000, .inl ch))] sz) [(h0, .inr (1, [.ref h1, .int zp])), (h1, .inl (cC, 3000, .inl ch)), (z, .inr (3, [.ref h1, .int out.1, .int out.2.1, .int out.2.2]))]) (va_A [(h0, .inr (1, [.ref h1, .int zp])), (h1, .inl (cC, 3000, .inl ch))] sz)) 1 4 (va_A [(h0, .inr (1, [.ref h1, .int zp])), (h1, .inl (cC, 3000, .inl ch))] sz) := by
  refine Met.ofW (cc := cc_P_cursor) (maxL := 1) (ret := (some (.object "VerdictPages$LineCursor"))) (by decide) rfl ?_
  intro p e s m args below meth c s₁ B hml hv
  obtain ⟨hargs, hsz, hP, hK, hD0⟩ := hv
  have hx := B.exec
  have hb := B.bytes
  have hr := B.returns
  have hts := atoms_spec (ws := ws_P_cursor) B.pre
  have ht : ∀ w ∈ TB_, w.before args s = true := fun w h => hts w (List.mem_cons_of_mem _ h)
  have hown : s.vm.findClass cn_P = some m.cls := findClass_of_methodNamed B.named
  have hlocks := B.notSynchronized
  subst hsz
  have hD := hD0.self (sz := s.heap.size)
  generalize hAe : va_A [(h0, .inr (1, [.ref h1, .int zp])), (h1, .inl (cC, 3000, .inl ch))] s.heap.size = A at hD ⊢
  have hA : ∀ q : Nat, s.heap.size ≤ q → A q := fun q h => by rw [← hAe]; exact Or.inr h
  have hS : va_S A s.heap s.heap [] := va_S.rf
  have hP : va_P (dC, dI) vwCl [(h0, .inr (1, [.ref h1, .int zp])), (h1, .inl (cC, 3000, .inl ch))] s.heap := hP
  have hl := lv_entry [.ref h0] (n := 1) (Nat.le_of_ble_eq_true rfl)
  have he : entryFrame m args 1 = _ := (congrArg (fun a => entryFrame m a 1) hargs).trans (lg_entry_eq m [.ref h0] 1)
  rw [he]
  generalize (lg_sl [.ref h0] ++ List.replicate (1 - (lg_sl [.ref h0]).length) Slot.unset).toArray = ls at hl ⊢
  have hl : lv_has ls 1 [(0, .ref h0)] := hl
  generalize hQ : MQ below _ args s _ _ _ = Q
  unfold fn_P_cursor at hF
  refine va_new (ci := 3) (fs := [.null, .int 0, .int 0, .int 0]) (C := cn_C) (T := tt_C) (N := 4) hx hb ht in_C ty_C tyok_C hown (ht _ tw_2_113) (ht _ tw_2_114) (ht _ tw_1_12) hK hP hD hS hA rfl (fun j hj => by rcases (show j = 0 ∨ j = 1 ∨ j = 2 ∨ j = 3 by omega) with rfl | rfl | rfl | rfl <;> rfl) (Nat.le_of_ble_eq_true rfl) (Nat.le_of_ble_eq_true rfl) dd_P_cursor_0 (fun q_5 H_6 hP hD hS => ?_)
  have hP : va_P (dC, dI) vwCl [(h0, .inr (1, [.ref h1, .int zp])), (h1, .inl (cC, 3000, .inl ch)), (q_5, .inr (3, [.null, .int 0, .int 0, .int 0]))] H_6 := hP
  have hD : va_D A [(h0, .inr (1, [.ref h1, .int zp])), (h1, .inl (cC, 3000, .inl ch)), (q_5, .inr (3, [.null, .int 0, .int 0, .int 0]))] := hD
  refine lv_dup hx hb dd_P_cursor_3 rfl ?_
  refine lv_aload_n hx hb dd_P_cursor_4 rfl (lv_at hl 0 rfl) ?_
  refine va_get (D := (dC, dI)) (ci := 1) (v := .ref h1) (C := cn_P) (T := tt_P) (N := 2) hx hb ht in_P hown hK hP 0 rfl rfl 0 (by decide) (ht _ tw_1_27) (fun _ h9 => h9) rfl dd_P_cursor_5 ?_
  refine lv_aload_n hx hb dd_P_cursor_8 rfl (lv_at hl 0 rfl) ?_
  refine va_get (D := (dC, dI)) (ci := 1) (v := .int zp) (C := cn_P) (T := tt_P) (N := 2) hx hb ht in_P hown hK hP 0 rfl rfl 1 (by decide) (ht _ tw_1_28) (fun _ h9 => h9) rfl dd_P_cursor_9 ?_
  obtain ⟨o_12, ho_12, hF⟩ := jv_bi hF
  refine jv_mv (wr := [(h0, .inr (1, [.ref h1, .int zp])), (h1, .inl (cC, 3000, .inl ch))]) (w1 := [(q_5, .inr (3, [.ref h1, .int o_12.1, .int o_12.2.1, .int o_12.2.2]))]) (va_runI (As := [.ref h1, .int zp]) (rest := [.ref q_5]) ⟨hx, hb, hml, hown, ht⟩ (c_C_init l dC dI cI cL cC cZ q_5 h1 H_6.size zp _ ho_12) (cwI 2 ht (gi_I tw_2_117) rfl rfl rfl (ht _ tw_1_12) (ht _ tw_2_115) (ht _ tw_2_116) rfl (by decide +kernel) ⟨Nat.le_of_ble_eq_true rfl, Nat.le_of_ble_eq_true rfl⟩) (jv_ps hK hP hD [2] rfl (by decide) rfl) rfl rfl hl.1 rfl (lv_room (Nat.le_of_ble_eq_true rfl)) dd_P_cursor_12 ⟨Nat.le_of_ble_eq_true rfl, Nat.le_of_ble_eq_true rfl⟩) hP hD hS hA [2] [0, 1] rfl rfl (by decide) (by decide) (fun H_7 locs_8 hP hD hS => ?_)
  have hP : va_P (dC, dI) vwCl [(h0, .inr (1, [.ref h1, .int zp])), (h1, .inl (cC, 3000, .inl ch)), (q_5, .inr (3, [.ref h1, .int o_12.1, .int o_12.2.1, .int o_12.2.2]))] H_7 := hP.sub [0, 1, 2] rfl
  have hD : va_D A [(h0, .inr (1, [.ref h1, .int zp])), (h1, .inl (cC, 3000, .inl ch)), (q_5, .inr (3, [.ref h1, .int o_12.1, .int o_12.2.1, .int o_12.2.2]))] := hD.sub [0, 1, 2] (by decide) rfl
  subst hQ
  obtain rfl := Option.some.inj hF
  have hP := hP.sub (ws' := [(h0, .inr (1, [.ref h1, .int zp])), (h1, .inl (cC, 3000, .inl ch)), (q_5, .inr (3, [.ref h1, .int o_12.1, .int o_12.2.1, .int o_12.2.2]))]) [0, 1, 2] rfl
  have hD := hD.sub (ws' := [(h0, .inr (1, [.ref h1, .int zp])), (h1, .inl (cC, 3000, .inl ch)), (q_5, .inr (3, [.ref h1, .int o_12.1, .int o_12.2.1, .int o_12.2.2]))]) [0, 1, 2] (by decide) rfl
  exact W.aret (v := .ref q_5) hx hb hr (Or.inl ⟨_, rfl⟩) (Or.inr ⟨_, rfl⟩) (fun t ht hW => ⟨⟨(), q_5, rfl, trivial, by rw [ht]; exact hP, va_K.moved hW.alike hK, hD⟩, hS.F ht⟩) hS.2.2 dd_P_cursor_15
set_option maxHeartbeats 40000000 in
set_option maxRecDepth 100000 in
theorem c_P_addWritten (l : Launch) (dC : Nat → ClassId) (dI : Nat → Nat → Nat) (cI cL cC cZ : ClassId) (h0 h1 : Nat) (sz : Nat) (zp : Int32) (ch : Nat → Int32) (x1 : Int64) (out : Int32 × (Nat → Int32)) (hF : fn_P_addWritten zp ch x1 = some out) : Met l yy_P_addWritten ws_P_addWritten { frames := 2, cells := 0, slots := 0, locals := 44 } (mP_ (dC, dI) (tk_ cI cL cC cZ) [(h0, .inr (1, [.ref h1, .int zp])), (h1, .inl (cC, 3000, .inl ch))] sz [.ref h0, .long x1]) (va_Qv (fun _ : Unit => True) (mB_ (dC, dI) (tk_ cI cL cC cZ) [(h0, .inr (1, [.ref h1, .int out.1])), (h1, .inl (cC, 3000, .inl out.2))] (va_A [(h0, .inr (1, [.ref h1, .int zp])), (h1, .inl (cC, 3000, .inl ch))] sz)) (va_A [(h0, .inr (1, [.ref h1, .int zp])), (h1, .inl (cC, 3000, .inl ch))] sz)) 0 0 (va_A [(h0, .inr (1, [.ref h1, .int zp])), (h1, .inl (cC, 3000, .inl ch))] sz) := by
  refine Met.ofW (cc := cc_P_addWritten) (maxL := 6) (ret := none) (by decide) rfl ?_
  intro p e s m args below meth c s₁ B hml hv
  obtain ⟨hargs, hsz, hP, hK, hD0⟩ := hv
  have hx := B.exec
  have hb := B.bytes
  have hr := B.returns
  have hts := atoms_spec (ws := ws_P_addWritten) B.pre
  have ht : ∀ w ∈ TB_, w.before args s = true := fun w h => hts w (List.mem_cons_of_mem _ h)
  have hown : s.vm.findClass cn_P = some m.cls := findClass_of_methodNamed B.named
  have hlocks := B.notSynchronized
  subst hsz
  have hD := hD0.self (sz := s.heap.size)
  generalize hAe : va_A [(h0, .inr (1, [.ref h1, .int zp])), (h1, .inl (cC, 3000, .inl ch))] s.heap.size = A at hD ⊢
  have hA : ∀ q : Nat, s.heap.size ≤ q → A q := fun q h => by rw [← hAe]; exact Or.inr h
  have hS : va_S A s.heap s.heap [] := va_S.rf
  have hP : va_P (dC, dI) vwCl [(h0, .inr (1, [.ref h1, .int zp])), (h1, .inl (cC, 3000, .inl ch))] s.heap := hP
  have hl := lv_entry [.ref h0, .long x1] (n := 6) (Nat.le_of_ble_eq_true rfl)
  have he : entryFrame m args 6 = _ := (congrArg (fun a => entryFrame m a 6) hargs).trans (lg_entry_eq m [.ref h0, .long x1] 6)
  rw [he]
  generalize (lg_sl [.ref h0, .long x1] ++ List.replicate (6 - (lg_sl [.ref h0, .long x1]).length) Slot.unset).toArray = ls at hl ⊢
  have hl : lv_has ls 6 [(0, .ref h0), (1, .long x1)] := hl
  generalize hQ : MQ below _ args s _ _ _ = Q
  have lp8 : ∀ (n8 : Nat), ∀ (zp : Int32) (ch : Nat → Int32) (x1 : Int64) (x3 : Int32) (x4 : Int32), fl_P_addWritten_8   n8 (zp, ch, x1, x3, x4) = some out → ∀ (H : Heap) (locs : List Loc), va_P (dC, dI) vwCl [(h0, .inr (1, [.ref h1, .int zp])), (h1, .inl (cC, 3000, .inl ch))] H → va_D A [(h0, .inr (1, [.ref h1, .int zp])), (h1, .inl (cC, 3000, .inl ch))] → va_S A s.heap H locs → ∀ ls : Array Slot, lv_has ls 6 [(0, .ref h0), (1, .long x1), (3, .int x3), (4, .int x4)] → W p l e (headSpec ws_P_addWritten { frames := 2, cells := 0, slots := 0, locals := 44 }).room s m args below meth c H locs 0 0 Q (F0 m 8 ls []) := by
    intro n8
    induction n8 with
    | zero =>
      intro zp ch x1 x3 x4 hF
      exact (jv_no hF).elim
    | succ n8 ih8 =>
      have bl44 : ∀ (zp : Int32) (ch : Nat → Int32) (x1 : Int64) (x3 : Int32) (x4 : Int32) (x5 : Int32), fb_P_addWritten_44  (fl_P_addWritten_8   n8) zp ch x1 x3 x4 x5 = some out → ∀ (H : Heap) (locs : List Loc), va_P (dC, dI) vwCl [(h0, .inr (1, [.ref h1, .int zp])), (h1, .inl (cC, 3000, .inl ch))] H → va_D A [(h0, .inr (1, [.ref h1, .int zp])), (h1, .inl (cC, 3000, .inl ch))] → va_S A s.heap H locs → ∀ ls : Array Slot, lv_has ls 6 [(0, .ref h0), (1, .long x1), (3, .int x3), (4, .int x4), (5, .int x5)] → W p l e (headSpec ws_P_addWritten { frames := 2, cells := 0, slots := 0, locals := 44 }).room s m args below meth c H locs 0 0 Q (F0 m 44 ls []) := by
        intro zp ch x1 x3 x4 x5 hF H locs hP hD hS ls hl
        unfold fb_P_addWritten_44 at hF
        refine lv_aload_n hx hb dd_P_addWritten_44 rfl (lv_at hl 0 rfl) ?_
        refine lv_iload hx hb dd_P_addWritten_45 (lv_at hl 4 rfl) ?_
        obtain ⟨o_47, ho_47, hF⟩ := jv_bi hF
        refine jv_mi (wr := []) (w1 := [(h0, .inr (1, [.ref h1, .int o_47.2.1])), (h1, .inl (cC, 3000, .inl o_47.2.2))]) (va_runV (C := cn_P) (As := [.int x5]) (rest := []) ⟨hx, hb, hml, hown, ht⟩ (c_P_add l dC dI cI cL cC cZ h0 h1 H.size zp ch x5 _ ho_47) (cwV 1 ht (gi_V tw_2_6 tw_2_7 tw_2_8 tw_1_2 tw_2_9) rfl rfl rfl (by decide +kernel) ⟨Nat.le_of_ble_eq_true rfl, Nat.le_of_ble_eq_true rfl⟩) (jv_pv hK hP hD [0, 1] rfl (by decide) rfl (va_recv hK hP (ci := 1) (q0 := 0) rfl rfl)) rfl rfl hl.1 rfl (lv_room (Nat.le_of_ble_eq_true rfl)) dd_P_addWritten_47 ⟨Nat.le_of_ble_eq_true rfl, Nat.le_of_ble_eq_true rfl⟩) hP hD hS hA [0, 1] [] rfl rfl (by decide) (by decide) (fun H_10 locs_11 hP hD hS => ?_)
        have hP : va_P (dC, dI) vwCl [(h0, .inr (1, [.ref h1, .int o_47.2.1])), (h1, .inl (cC, 3000, .inl o_47.2.2))] H_10 := hP.sub [0, 1] rfl
        have hD : va_D A [(h0, .inr (1, [.ref h1, .int o_47.2.1])), (h1, .inl (cC, 3000, .inl o_47.2.2))] := hD.sub [0, 1] (by decide) rfl
        refine lv_pop hx hb dd_P_addWritten_50 rfl ?_
        refine lv_iinc (v := x4 + 1) (lv' := [(4, .int (x4 + 1)), (0, .ref h0), (1, .long x1), (3, .int x3), (5, .int x5)]) hx hb dd_P_addWritten_51 hl (k := 3) rfl rfl (by decide) rfl (fun ls hl => ?_)
        refine lv_goto (tgt := 8) hx hb dd_P_addWritten_54 (by decide) ?_
        exact ih8 o_47.2.1 o_47.2.2 x1 x3 (x4 + 1) hF H_10 locs_11 hP hD hS ls (lv_sub hl [1, 2, 3, 0] rfl)
      intro zp ch x1 x3 x4 hF H locs hP hD hS ls hl
      have hF : fb_P_addWritten_8   (fl_P_addWritten_8   n8) zp ch x1 x3 x4 = some out := hF
      unfold fb_P_addWritten_8 at hF
      refine lv_iload hx hb dd_P_addWritten_8 (lv_at hl 3 rfl) ?_
      refine lv_iload_n hx hb dd_P_addWritten_10 rfl (lv_at hl 2 rfl) ?_
      refine lv_icmp_ge (tgt := 57) hx hb dd_P_addWritten_11 (by decide) (fun c_12 => ?_) (fun c_12 => ?_)
      · have hF := jv_t c_12 hF
        subst hQ
        obtain rfl := Option.some.inj hF
        exact W.vret hx hb hr (fun t ht hW => ⟨⟨(), rfl, trivial, by rw [ht]; exact hP, va_K.moved hW.alike hK, hD⟩, hS.F ht⟩) hS.2.2 dd_P_addWritten_57
      · have hF := jv_f c_12 hF
        refine lv_lload_n hx hb dd_P_addWritten_14 rfl (lv_at hl 1 rfl) ?_
        refine lv_iload hx hb dd_P_addWritten_15 (lv_at hl 3 rfl) ?_
        obtain ⟨o_17, ho_17, hF⟩ := jv_bi hF
        refine jv_ci (va_runS (As := [.long x1, .int x4]) (rest := []) ⟨hx, hb, hml, hown, ht⟩ (c_N_codeAt l dC dI cI cL cC cZ H.size x1 x4 _ ho_17) (va_cwS 2 ht (gi_S tw_2_69 tw_1_86 tw_1_5 tw_1_87) rfl rfl rfl (by decide +kernel) ⟨Nat.le_of_ble_eq_true rfl, Nat.le_of_ble_eq_true rfl⟩) (jv_ps hK hP hD [] rfl (by decide) rfl) rfl rfl hl.1 rfl (lv_room (Nat.le_of_ble_eq_true rfl)) dd_P_addWritten_17 ⟨Nat.le_of_ble_eq_true rfl, Nat.le_of_ble_eq_true rfl⟩) ?_
        refine lv_i2c hx hb dd_P_addWritten_20 rfl ?_
        refine lv_istore (lv' := [(5, .int ((o_17.toUInt32 % 65536).toInt32)), (0, .ref h0), (1, .long x1), (3, .int x3), (4, .int x4)]) hx hb dd_P_addWritten_21 hl (by decide) rfl (fun ls hl => ?_)
        refine lv_iload hx hb dd_P_addWritten_23 (lv_at hl 0 rfl) ?_
        refine lv_bipush (v := 92) hx hb dd_P_addWritten_25 (by decide) ?_
        refine lv_icmp_eq (tgt := 37) hx hb dd_P_addWritten_27 (by decide) (fun c_13 => ?_) (fun c_13 => ?_)
        · have hF := jv_t c_13 hF
          refine lv_aload_n hx hb dd_P_addWritten_37 rfl (lv_at hl 1 rfl) ?_
          refine lv_bipush (v := 92) hx hb dd_P_addWritten_38 (by decide) ?_
          obtain ⟨o_40, ho_40, hF⟩ := jv_bi hF
          refine jv_mi (wr := []) (w1 := [(h0, .inr (1, [.ref h1, .int o_40.2.1])), (h1, .inl (cC, 3000, .inl o_40.2.2))]) (va_runV (C := cn_P) (As := [.int 92]) (rest := []) ⟨hx, hb, hml, hown, ht⟩ (c_P_add l dC dI cI cL cC cZ h0 h1 H.size zp ch 92 _ ho_40) (cwV 1 ht (gi_V tw_2_6 tw_2_7 tw_2_8 tw_1_2 tw_2_9) rfl rfl rfl (by decide +kernel) ⟨Nat.le_of_ble_eq_true rfl, Nat.le_of_ble_eq_true rfl⟩) (jv_pv hK hP hD [0, 1] rfl (by decide) rfl (va_recv hK hP (ci := 1) (q0 := 0) rfl rfl)) rfl rfl hl.1 rfl (lv_room (Nat.le_of_ble_eq_true rfl)) dd_P_addWritten_40 ⟨Nat.le_of_ble_eq_true rfl, Nat.le_of_ble_eq_true rfl⟩) hP hD hS hA [0, 1] [] rfl rfl (by decide) (by decide) (fun H_14 locs_15 hP hD hS => ?_)
          have hP : va_P (dC, dI) vwCl [(h0, .inr (1, [.ref h1, .int o_40.2.1])), (h1, .inl (cC, 3000, .inl o_40.2.2))] H_14 := hP.sub [0, 1] rfl
          have hD : va_D A [(h0, .inr (1, [.ref h1, .int o_40.2.1])), (h1, .inl (cC, 3000, .inl o_40.2.2))] := hD.sub [0, 1] (by decide) rfl
          refine lv_pop hx hb dd_P_addWritten_43 rfl ?_
          exact bl44 o_40.2.1 o_40.2.2 x1 x3 x4 ((o_17.toUInt32 % 65536).toInt32) hF H_14 locs_15 hP hD hS ls (lv_sub hl [1, 2, 3, 4, 0] rfl)
        · have hF := jv_f c_13 hF
          refine lv_iload hx hb dd_P_addWritten_30 (lv_at hl 0 rfl) ?_
          refine lv_bipush (v := 35) hx hb dd_P_addWritten_32 (by decide) ?_
          refine lv_icmp_ne (tgt := 44) hx hb dd_P_addWritten_34 (by decide) (fun c_16 => ?_) (fun c_16 => ?_)
          · have hF := jv_f c_16 hF
            exact bl44 zp ch x1 x3 x4 ((o_17.toUInt32 % 65536).toInt32) hF H locs hP hD hS ls (lv_sub hl [1, 2, 3, 4, 0] rfl)
          · have hF := jv_t c_16 hF
            refine lv_aload_n hx hb dd_P_addWritten_37 rfl (lv_at hl 1 rfl) ?_
            refine lv_bipush (v := 92) hx hb dd_P_addWritten_38 (by decide) ?_
            obtain ⟨o_40, ho_40, hF⟩ := jv_bi hF
            refine jv_mi (wr := []) (w1 := [(h0, .inr (1, [.ref h1, .int o_40.2.1])), (h1, .inl (cC, 3000, .inl o_40.2.2))]) (va_runV (C := cn_P) (As := [.int 92]) (rest := []) ⟨hx, hb, hml, hown, ht⟩ (c_P_add l dC dI cI cL cC cZ h0 h1 H.size zp ch 92 _ ho_40) (cwV 1 ht (gi_V tw_2_6 tw_2_7 tw_2_8 tw_1_2 tw_2_9) rfl rfl rfl (by decide +kernel) ⟨Nat.le_of_ble_eq_true rfl, Nat.le_of_ble_eq_true rfl⟩) (jv_pv hK hP hD [0, 1] rfl (by decide) rfl (va_recv hK hP (ci := 1) (q0 := 0) rfl rfl)) rfl rfl hl.1 rfl (lv_room (Nat.le_of_ble_eq_true rfl)) dd_P_addWritten_40 ⟨Nat.le_of_ble_eq_true rfl, Nat.le_of_ble_eq_true rfl⟩) hP hD hS hA [0, 1] [] rfl rfl (by decide) (by decide) (fun H_17 locs_18 hP hD hS => ?_)
            have hP : va_P (dC, dI) vwCl [(h0, .inr (1, [.ref h1, .int o_40.2.1])), (h1, .inl (cC, 3000, .inl o_40.2.2))] H_17 := hP.sub [0, 1] rfl
            have hD : va_D A [(h0, .inr (1, [.ref h1, .int o_40.2.1])), (h1, .inl (cC, 3000, .inl o_40.2.2))] := hD.sub [0, 1] (by decide) rfl
            refine lv_pop hx hb dd_P_addWritten_43 rfl ?_
            exact bl44 o_40.2.1 o_40.2.2 x1 x3 x4 ((o_17.toUInt32 % 65536).toInt32) hF H_17 locs_18 hP hD hS ls (lv_sub hl [1, 2, 3, 4, 0] rfl)
  unfold fn_P_addWritten at hF
  refine lv_lload_n hx hb dd_P_addWritten_0 rfl (lv_at hl 1 rfl) ?_
  obtain ⟨o_1, ho_1, hF⟩ := jv_bi hF
  refine jv_ci (va_runS (As := [.long x1]) (rest := []) ⟨hx, hb, hml, hown, ht⟩ (c_N_sizeOf l dC dI cI cL cC cZ s.heap.size x1 _ ho_1) (va_cwS 1 ht (gi_S tw_2_68 tw_1_83 tw_1_5 tw_1_84) rfl rfl rfl (by decide +kernel) ⟨Nat.le_of_ble_eq_true rfl, Nat.le_of_ble_eq_true rfl⟩) (jv_ps hK hP hD [] rfl (by decide) rfl) rfl rfl hl.1 rfl (lv_room (Nat.le_of_ble_eq_true rfl)) dd_P_addWritten_1 ⟨Nat.le_of_ble_eq_true rfl, Nat.le_of_ble_eq_true rfl⟩) ?_
  refine lv_istore_n (lv' := [(3, .int o_1), (0, .ref h0), (1, .long x1)]) hx hb dd_P_addWritten_4 rfl hl (by decide) rfl (fun ls hl => ?_)
  refine lv_iconst (v := 0) hx hb dd_P_addWritten_5 (by decide) ?_
  refine lv_istore (lv' := [(4, .int 0), (3, .int o_1), (0, .ref h0), (1, .long x1)]) hx hb dd_P_addWritten_6 hl (by decide) rfl (fun ls hl => ?_)
  exact lp8 4000 zp ch x1 o_1 0 hF s.heap [] hP hD hS ls (lv_sub hl [2, 3, 1, 0] rfl)
