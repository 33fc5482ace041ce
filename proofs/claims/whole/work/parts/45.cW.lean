set_option maxHeartbeats 40000000 in
set_option maxRecDepth 100000 in
theorem c_W_init (l : Launch) (dC : Nat → ClassId) (dI : Nat → Nat → Nat) (cI cL cC cZ : ClassId) (h0 a1 a2 : Nat) (sz : Nat)   (out : Unit) (hF : fn_W_init  = some out) : Met l yy_W_init ws_W_init { frames := 1, cells := 0, slots := 0, locals := 12 } (mP_ (dC, dI) (tk_ cI cL cC cZ) [(h0, .inr (2, [.null, .null]))] sz [.ref h0, .ref a1, .ref a2]) (va_Qv (fun _ : Unit => True) (mB_ (dC, dI) (tk_ cI cL cC cZ) [(h0, .inr (2, [.ref a1, .ref a2]))] (va_A [(h0, .inr (2, [.null, .null]))] sz)) (va_A [(h0, .inr (2, [.null, .null]))] sz)) 0 0 (va_A [(h0, .inr (2, [.null, .null]))] sz) := by
  refine Met.ofW (cc := cc_W_init) (maxL := 3) (ret := none) (by decide) rfl ?_
  intro p e s m args below meth c s₁ B hml hv
  obtain ⟨hargs, hsz, hP, hK, hD0⟩ := hv
  have hx := B.exec
  have hb := B.bytes
  have hr := B.returns
  have hts := atoms_spec (ws := ws_W_init) B.pre
  have ht : ∀ w ∈ TB_, w.before args s = true := fun w h => hts w (List.mem_cons_of_mem _ h)
  have hown : s.vm.findClass cn_W = some m.cls := findClass_of_methodNamed B.named
  have hlocks := B.notSynchronized
  have hin : meth.name = "<init>" := (name_of_methodNamed B.named B.method).1
  subst hsz
  have hD := hD0.self (sz := s.heap.size)
  generalize hAe : va_A [(h0, .inr (2, [.null, .null]))] s.heap.size = A at hD ⊢
  have hA : ∀ q : Nat, s.heap.size ≤ q → A q := fun q h => by rw [← hAe]; exact Or.inr h
  have hS : va_S A s.heap s.heap [] := va_S.rf
  have hP : va_P (dC, dI) vwCl [(h0, .inr (2, [.null, .null]))] s.heap := hP
  have hl := lv_entry [.ref h0, .ref a1, .ref a2] (n := 3) (Nat.le_of_ble_eq_true rfl)
  have he : entryFrame m args 3 = _ := (congrArg (fun a => entryFrame m a 3) hargs).trans (lg_entry_eq m [.ref h0, .ref a1, .ref a2] 3)
  rw [he]
  generalize (lg_sl [.ref h0, .ref a1, .ref a2] ++ List.replicate (3 - (lg_sl [.ref h0, .ref a1, .ref a2]).length) Slot.unset).toArray = ls at hl ⊢
  have hl : lv_has ls 3 [(0, .ref h0), (1, .ref a1), (2, .ref a2)] := hl
  generalize hQ : MQ below _ args s _ _ _ = Q
  unfold fn_W_init at hF
  refine lv_aload_n hx hb dd_W_init_0 rfl (lv_at hl 0 rfl) ?_
  refine W.objInit hx hb hown (ht _ tw_1_177) (ht _ tw_1_19) (ht _ tw_1_20) rfl (by rw [hml]; exact hl.1) rfl dd_W_init_1 (Nat.le_of_ble_eq_true rfl) (Nat.le_of_ble_eq_true rfl) ?_
  refine W.eq (g2 := F0 m 4 ls []) rfl ?_
  refine lv_aload_n hx hb dd_W_init_4 rfl (lv_at hl 0 rfl) ?_
  refine lv_aload_n hx hb dd_W_init_5 rfl (lv_at hl 1 rfl) ?_
  refine va_putF (D := (dC, dI)) (ci := 2) (v := .ref a1) (ty := (.object "VerdictPages$Page")) (C := cn_W) (T := tt_W) (N := 2) hx hb ht in_W ty_W tyok_W nm_W hown hK hP hD hS 0 rfl rfl 0 (by decide) (ht _ tw_1_178) (fun _ h9 => h9) rfl hin rfl (by decide +kernel) rfl rfl (Nat.le_of_ble_eq_true rfl) dd_W_init_6 (fun H_5 locs_6 hP hD hS => ?_)
  have hP : va_P (dC, dI) vwCl [(h0, .inr (2, [.ref a1, .null]))] H_5 := hP
  have hD : va_D A [(h0, .inr (2, [.ref a1, .null]))] := hD
  refine lv_aload_n hx hb dd_W_init_9 rfl (lv_at hl 0 rfl) ?_
  refine lv_aload_n hx hb dd_W_init_10 rfl (lv_at hl 2 rfl) ?_
  refine va_putF (D := (dC, dI)) (ci := 2) (v := .ref a2) (ty := (.object "VerdictPages$Report")) (C := cn_W) (T := tt_W) (N := 2) hx hb ht in_W ty_W tyok_W nm_W hown hK hP hD hS 0 rfl rfl 1 (by decide) (ht _ tw_1_179) (fun _ h9 => h9) rfl hin rfl (by decide +kernel) rfl rfl (Nat.le_of_ble_eq_true rfl) dd_W_init_11 (fun H_7 locs_8 hP hD hS => ?_)
  have hP : va_P (dC, dI) vwCl [(h0, .inr (2, [.ref a1, .ref a2]))] H_7 := hP
  have hD : va_D A [(h0, .inr (2, [.ref a1, .ref a2]))] := hD
  subst hQ
  obtain rfl := Option.some.inj hF
  have hP := hP.sub (ws' := [(h0, .inr (2, [.ref a1, .ref a2]))]) [0] rfl
  have hD := hD.sub (ws' := [(h0, .inr (2, [.ref a1, .ref a2]))]) [0] (by decide) rfl
  exact W.vret hx hb hr (fun t ht hW => ⟨⟨(), rfl, trivial, by rw [ht]; exact hP, va_K.moved hW.alike hK, hD⟩, hS.F ht⟩) hS.2.2 dd_W_init_14
set_option maxHeartbeats 40000000 in
set_option maxRecDepth 100000 in
theorem c_W_verdictOf (l : Launch) (dC : Nat → ClassId) (dI : Nat → Nat → Nat) (cI cL cC cZ : ClassId) (adK adV : Nat → Nat) (sz : Nat)  (x0 : Int32) (out : Nat) (hF : fn_W_verdictOf x0 = some out) : Met l yy_W_verdictOf ws_W_verdictOf { frames := 0, cells := 0, slots := 0, locals := 0 } (mS_ adK adV (dC, dI) (tk_ cI cL cC cZ) [] sz [.int x0]) (va_Sr (fun k => k = out) (fun k => .ref (adK k))) 0 0 (fun _ => False) := by
  refine Met.ofW (cc := cc_W_verdictOf) (maxL := 1) (ret := (some (.object "java/lang/String"))) (by decide) rfl ?_
  intro p e s m args below meth c s₁ B hml hv
  obtain ⟨hargs, hsz, hP, hK, hD0, hV⟩ := hv
  have hx := B.exec
  have hb := B.bytes
  have hr := B.returns
  have hts := atoms_spec (ws := ws_W_verdictOf) B.pre
  have ht : ∀ w ∈ TB_, w.before args s = true := fun w h => hts w (List.mem_cons_of_mem _ h)
  have hown : s.vm.findClass cn_W = some m.cls := findClass_of_methodNamed B.named
  have hlocks := B.notSynchronized
  subst hsz
  have hD := hD0.self (sz := s.heap.size)
  generalize hAe : va_A [] s.heap.size = A at hD hV
  have hA : ∀ q : Nat, s.heap.size ≤ q → A q := fun q h => by rw [← hAe]; exact Or.inr h
  have hS : va_S A s.heap s.heap [] := va_S.rf
  have hP : va_P (dC, dI) vwCl [] s.heap := hP
  have hl := lv_entry [.int x0] (n := 1) (Nat.le_of_ble_eq_true rfl)
  have he : entryFrame m args 1 = _ := (congrArg (fun a => entryFrame m a 1) hargs).trans (lg_entry_eq m [.int x0] 1)
  rw [he]
  generalize (lg_sl [.int x0] ++ List.replicate (1 - (lg_sl [.int x0]).length) Slot.unset).toArray = ls at hl ⊢
  have hl : lv_has ls 1 [(0, .int x0)] := hl
  generalize hQ : MQ below _ args s _ _ _ = Q
  unfold fn_W_verdictOf at hF
  refine lv_iload_n hx hb dd_W_verdictOf_0 rfl (lv_at hl 0 rfl) ?_
  refine lv_iconst (v := 1) hx hb dd_W_verdictOf_1 (by decide) ?_
  refine lv_icmp_eq (tgt := 15) hx hb dd_W_verdictOf_2 (by decide) (fun c_4 => ?_) (fun c_4 => ?_)
  · have hF := jv_t c_4 hF
    refine va_ldcS hx hb hown (sk_R (k := 16) hV rfl) dd_W_verdictOf_15 ?_
    refine lv_goto (tgt := 22) hx hb dd_W_verdictOf_17 (by decide) ?_
    subst hQ
    exact W.aret (v := .ref (adK 4)) hx hb hr (Or.inl ⟨_, rfl⟩) (Or.inr ⟨_, rfl⟩) (fun t ht hW => ⟨4, rfl, (Option.some.inj hF), ht⟩) (fun _ h => by cases h) dd_W_verdictOf_22
  · have hF := jv_f c_4 hF
    refine lv_iload_n hx hb dd_W_verdictOf_5 rfl (lv_at hl 0 rfl) ?_
    refine lv_iconst (v := 3) hx hb dd_W_verdictOf_6 (by decide) ?_
    refine lv_icmp_eq (tgt := 15) hx hb dd_W_verdictOf_7 (by decide) (fun c_5 => ?_) (fun c_5 => ?_)
    · have hF := jv_t c_5 hF
      refine va_ldcS hx hb hown (sk_R (k := 16) hV rfl) dd_W_verdictOf_15 ?_
      refine lv_goto (tgt := 22) hx hb dd_W_verdictOf_17 (by decide) ?_
      subst hQ
      exact W.aret (v := .ref (adK 4)) hx hb hr (Or.inl ⟨_, rfl⟩) (Or.inr ⟨_, rfl⟩) (fun t ht hW => ⟨4, rfl, (Option.some.inj hF), ht⟩) (fun _ h => by cases h) dd_W_verdictOf_22
    · have hF := jv_f c_5 hF
      refine lv_iload_n hx hb dd_W_verdictOf_10 rfl (lv_at hl 0 rfl) ?_
      refine lv_iconst (v := 5) hx hb dd_W_verdictOf_11 (by decide) ?_
      refine lv_icmp_ne (tgt := 20) hx hb dd_W_verdictOf_12 (by decide) (fun c_6 => ?_) (fun c_6 => ?_)
      · have hF := jv_f c_6 hF
        refine va_ldcS hx hb hown (sk_R (k := 17) hV rfl) dd_W_verdictOf_20 ?_
        subst hQ
        exact W.aret (v := .ref (adK 3)) hx hb hr (Or.inl ⟨_, rfl⟩) (Or.inr ⟨_, rfl⟩) (fun t ht hW => ⟨3, rfl, (Option.some.inj hF), ht⟩) (fun _ h => by cases h) dd_W_verdictOf_22
      · have hF := jv_t c_6 hF
        refine va_ldcS hx hb hown (sk_R (k := 16) hV rfl) dd_W_verdictOf_15 ?_
        refine lv_goto (tgt := 22) hx hb dd_W_verdictOf_17 (by decide) ?_
        subst hQ
        exact W.aret (v := .ref (adK 4)) hx hb hr (Or.inl ⟨_, rfl⟩) (Or.inr ⟨_, rfl⟩) (fun t ht hW => ⟨4, rfl, (Option.some.inj hF), ht⟩) (fun _ h => by cases h) dd_W_verdictOf_22
set_option maxHeartbeats 40000000 in
set_option maxRecDepth 100000 in
theorem c_W_directiveOf (l : Launch) (dC : Nat → ClassId) (dI : Nat → Nat → Nat) (cI cL cC cZ : ClassId) (adK adV : Nat → Nat) (sz : Nat)  (x0 : Int32) (out : Nat) (hF : fn_W_directiveOf x0 = some out) : Met l yy_W_directiveOf ws_W_directiveOf { frames := 0, cells := 0, slots := 0, locals := 0 } (mS_ adK adV (dC, dI) (tk_ cI cL cC cZ) [] sz [.int x0]) (va_Sr (fun k => k = out) (fun k => .ref (adK k))) 0 0 (fun _ => False) := by
  refine Met.ofW (cc := cc_W_directiveOf) (maxL := 1) (ret := (some (.object "java/lang/String"))) (by decide) rfl ?_
  intro p e s m args below meth c s₁ B hml hv
  obtain ⟨hargs, hsz, hP, hK, hD0, hV⟩ := hv
  have hx := B.exec
  have hb := B.bytes
  have hr := B.returns
  have hts := atoms_spec (ws := ws_W_directiveOf) B.pre
  have ht : ∀ w ∈ TB_, w.before args s = true := fun w h => hts w (List.mem_cons_of_mem _ h)
  have hown : s.vm.findClass cn_W = some m.cls := findClass_of_methodNamed B.named
  have hlocks := B.notSynchronized
  subst hsz
  have hD := hD0.self (sz := s.heap.size)
  generalize hAe : va_A [] s.heap.size = A at hD hV
  have hA : ∀ q : Nat, s.heap.size ≤ q → A q := fun q h => by rw [← hAe]; exact Or.inr h
  have hS : va_S A s.heap s.heap [] := va_S.rf
  have hP : va_P (dC, dI) vwCl [] s.heap := hP
  have hl := lv_entry [.int x0] (n := 1) (Nat.le_of_ble_eq_true rfl)
  have he : entryFrame m args 1 = _ := (congrArg (fun a => entryFrame m a 1) hargs).trans (lg_entry_eq m [.int x0] 1)
  rw [he]
  generalize (lg_sl [.int x0] ++ List.replicate (1 - (lg_sl [.int x0]).length) Slot.unset).toArray = ls at hl ⊢
  have hl : lv_has ls 1 [(0, .int x0)] := hl
  generalize hQ : MQ below _ args s _ _ _ = Q
  unfold fn_W_directiveOf at hF
  refine lv_iload_n hx hb dd_W_directiveOf_0 rfl (lv_at hl 0 rfl) ?_
  refine lv_iconst (v := 2) hx hb dd_W_directiveOf_1 (by decide) ?_
  refine lv_icmp_ne (tgt := 8) hx hb dd_W_directiveOf_2 (by decide) (fun c_3 => ?_) (fun c_3 => ?_)
  · have hF := jv_f c_3 hF
    refine lv_iload_n hx hb dd_W_directiveOf_8 rfl (lv_at hl 0 rfl) ?_
    refine lv_iconst (v := 3) hx hb dd_W_directiveOf_9 (by decide) ?_
    refine lv_icmp_ne (tgt := 18) hx hb dd_W_directiveOf_10 (by decide) (fun c_4 => ?_) (fun c_4 => ?_)
    · have hF := jv_f c_4 hF
      refine va_ldcS hx hb hown (sk_R (k := 20) hV rfl) dd_W_directiveOf_18 ?_
      subst hQ
      exact W.aret (v := .ref (adK 10)) hx hb hr (Or.inl ⟨_, rfl⟩) (Or.inr ⟨_, rfl⟩) (fun t ht hW => ⟨10, rfl, (Option.some.inj hF), ht⟩) (fun _ h => by cases h) dd_W_directiveOf_20
    · have hF := jv_t c_4 hF
      refine va_ldcS hx hb hown (sk_R (k := 19) hV rfl) dd_W_directiveOf_13 ?_
      refine lv_goto (tgt := 20) hx hb dd_W_directiveOf_15 (by decide) ?_
      subst hQ
      exact W.aret (v := .ref (adK 7)) hx hb hr (Or.inl ⟨_, rfl⟩) (Or.inr ⟨_, rfl⟩) (fun t ht hW => ⟨7, rfl, (Option.some.inj hF), ht⟩) (fun _ h => by cases h) dd_W_directiveOf_20
  · have hF := jv_t c_3 hF
    refine va_ldcS hx hb hown (sk_R (k := 18) hV rfl) dd_W_directiveOf_5 ?_
    subst hQ
    exact W.aret (v := .ref (adK 6)) hx hb hr (Or.inl ⟨_, rfl⟩) (Or.inr ⟨_, rfl⟩) (fun t ht hW => ⟨6, rfl, (Option.some.inj hF), ht⟩) (fun _ h => by cases h) dd_W_directiveOf_7
set_option maxHeartbeats 40000000 in
set_option maxRecDepth 100000 in
theorem c_W_writeSubtest (l : Launch) (dC : Nat → ClassId) (dI : Nat → Nat → Nat) (cI cL cC cZ : ClassId) (adK adV : Nat → Nat) (h0 h1 h2 h3 h4 h5 h6 h7 : Nat) (sz : Nat) (zp : Int32) (ch : Nat → Int32) (ct : Int32) (lo : Int32) (oc : Int32) (kd : Nat → Int32) (dp : Nat → Int32) (su : Nat → Int32) (nm : Nat → Int64) (x1 : Int32) (out : Int32 × (Nat → Int32)) (hF : fn_W_writeSubtest ct dp nm zp ch x1 = some out) : Met l yy_W_writeSubtest ws_W_writeSubtest { frames := 6, cells := 0, slots := 0, locals := 129 } (mS_ adK adV (dC, dI) (tk_ cI cL cC cZ) [(h0, .inr (2, [.ref h1, .ref h3])), (h1, .inr (1, [.ref h2, .int zp])), (h2, .inl (cC, 3000, .inl ch)), (h3, .inr (0, [.ref h4, .ref h5, .ref h6, .ref h7, .int ct, .int lo, .int oc])), (h4, .inl (cI, 24, .inl kd)), (h5, .inl (cI, 24, .inl dp)), (h6, .inl (cI, 24, .inl su)), (h7, .inl (cL, 24, .inr (.inl nm)))] sz [.ref h0, .int x1]) (va_Qv (fun _ : Unit => True) (mB_ (dC, dI) (tk_ cI cL cC cZ) [(h0, .inr (2, [.ref h1, .ref h3])), (h1, .inr (1, [.ref h2, .int out.1])), (h2, .inl (cC, 3000, .inl out.2)), (h3, .inr (0, [.ref h4, .ref h5, .ref h6, .ref h7, .int ct, .int lo, .int oc])), (h4, .inl (cI, 24, .inl kd)), (h5, .inl (cI, 24, .inl dp)), (h6, .inl (cI, 24, .inl su)), (h7, .inl (cL, 24, .inr (.inl nm)))] (va_A [(h0, .inr (2, [.ref h1, .ref h3])), (h1, .inr (1, [.ref h2, .int zp])), (h2, .inl (cC, 3000, .inl ch)), (h3, .inr (0, [.ref h4, .ref h5, .ref h6, .ref h7, .int ct, .int lo, .int oc])), (h4, .inl (cI, 24, .inl kd)), (h5, .inl (cI, 24, .inl dp)), (h6, .inl (cI, 24, .inl su)), (h7, .inl (cL, 24, .inr (.inl nm)))] sz)) (va_A [(h0, .inr (2, [.ref h1, .ref h3])), (h1, .inr (1, [.ref h2, .int zp])), (h2, .inl (cC, 3000, .inl ch)), (h3, .inr (0, [.ref h4, .ref h5, .ref h6, .ref h7, .int ct, .int lo, .int oc])), (h4, .inl (cI, 24, .inl kd)), (h5, .inl (cI, 24, .inl dp)), (h6, .inl (cI, 24, .inl su)), (h7, .inl (cL, 24, .inr (.inl nm)))] sz)) 0 0 (va_A [(h0, .inr (2, [.ref h1, .ref h3])), (h1, .inr (1, [.ref h2, .int zp])), (h2, .inl (cC, 3000, .inl ch)), (h3, .inr (0, [.ref h4, .ref h5, .ref h6, .ref h7, .int ct, .int lo, .int oc])), (h4, .inl (cI, 24, .inl kd)), (h5, .inl (cI, 24, .inl dp)), (h6, .inl (cI, 24, .inl su)), (h7, .inl (cL, 24, .inr (.inl nm)))] sz) := by
  refine Met.ofW (cc := cc_W_writeSubtest) (maxL := 2) (ret := none) (by decide) rfl ?_
  intro p e s m args below meth c s₁ B hml hv
  obtain ⟨hargs, hsz, hP, hK, hD0, hV⟩ := hv
  have hx := B.exec
  have hb := B.bytes
  have hr := B.returns
  have hts := atoms_spec (ws := ws_W_writeSubtest) B.pre
  have ht : ∀ w ∈ TB_, w.before args s = true := fun w h => hts w (List.mem_cons_of_mem _ h)
  have hown : s.vm.findClass cn_W = some m.cls := findClass_of_methodNamed B.named
  have hlocks := B.notSynchronized
  subst hsz
  have hD := hD0.self (sz := s.heap.size)
  generalize hAe : va_A [(h0, .inr (2, [.ref h1, .ref h3])), (h1, .inr (1, [.ref h2, .int zp])), (h2, .inl (cC, 3000, .inl ch)), (h3, .inr (0, [.ref h4, .ref h5, .ref h6, .ref h7, .int ct, .int lo, .int oc])), (h4, .inl (cI, 24, .inl kd)), (h5, .inl (cI, 24, .inl dp)), (h6, .inl (cI, 24, .inl su)), (h7, .inl (cL, 24, .inr (.inl nm)))] s.heap.size = A at hD ⊢ hV
  have hA : ∀ q : Nat, s.heap.size ≤ q → A q := fun q h => by rw [← hAe]; exact Or.inr h
  have hS : va_S A s.heap s.heap [] := va_S.rf
  have hP : va_P (dC, dI) vwCl [(h0, .inr (2, [.ref h1, .ref h3])), (h1, .inr (1, [.ref h2, .int zp])), (h2, .inl (cC, 3000, .inl ch)), (h3, .inr (0, [.ref h4, .ref h5, .ref h6, .ref h7, .int ct, .int lo, .int oc])), (h4, .inl (cI, 24, .inl kd)), (h5, .inl (cI, 24, .inl dp)), (h6, .inl (cI, 24, .inl su)), (h7, .inl (cL, 24, .inr (.inl nm)))] s.heap := hP
  have hl := lv_entry [.ref h0, .int x1] (n := 2) (Nat.le_of_ble_eq_true rfl)
  have he : entryFrame m args 2 = _ := (congrArg (fun a => entryFrame m a 2) hargs).trans (lg_entry_eq m [.ref h0, .int x1] 2)
  rw [he]
  generalize (lg_sl [.ref h0, .int x1] ++ List.replicate (2 - (lg_sl [.ref h0, .int x1]).length) Slot.unset).toArray = ls at hl ⊢
  have hl : lv_has ls 2 [(0, .ref h0), (1, .int x1)] := hl
  generalize hQ : MQ below _ args s _ _ _ = Q
  unfold fn_W_writeSubtest at hF
  refine lv_aload_n hx hb dd_W_writeSubtest_0 rfl (lv_at hl 0 rfl) ?_
  refine va_get (D := (dC, dI)) (ci := 2) (v := .ref h1) (C := cn_W) (T := tt_W) (N := 2) hx hb ht in_W hown hK hP 0 rfl rfl 0 (by decide) (ht _ tw_1_178) (fun _ h9 => h9) rfl dd_W_writeSubtest_1 ?_
  refine lv_aload_n hx hb dd_W_writeSubtest_4 rfl (lv_at hl 0 rfl) ?_
  refine va_get (D := (dC, dI)) (ci := 2) (v := .ref h3) (C := cn_W) (T := tt_W) (N := 2) hx hb ht in_W hown hK hP 0 rfl rfl 1 (by decide) (ht _ tw_1_179) (fun _ h9 => h9) rfl dd_W_writeSubtest_5 ?_
  refine lv_iload_n hx hb dd_W_writeSubtest_8 rfl (lv_at hl 1 rfl) ?_
  obtain ⟨o_9, ho_9, hF⟩ := jv_bi hF
  refine jv_ci (va_runV (C := cn_R) (As := [.int x1]) (rest := [.ref h1]) ⟨hx, hb, hml, hown, ht⟩ (c_R_depthOf l dC dI cI cL cC cZ h3 h4 h5 h6 h7 s.heap.size ct lo oc kd dp su nm x1 _ ho_9) (cwV 1 ht (gi_V tw_2_52 tw_1_156 tw_1_157 tw_1_3 tw_1_158) rfl rfl rfl (by decide +kernel) ⟨Nat.le_of_ble_eq_true rfl, Nat.le_of_ble_eq_true rfl⟩) (jv_pv hK hP hD [3, 4, 5, 6, 7] rfl (by decide) rfl (va_recv hK hP (ci := 0) (q0 := 3) rfl rfl)) rfl rfl hl.1 rfl (lv_room (Nat.le_of_ble_eq_true rfl)) dd_W_writeSubtest_9 ⟨Nat.le_of_ble_eq_true rfl, Nat.le_of_ble_eq_true rfl⟩) ?_
  obtain ⟨o_12, ho_12, hF⟩ := jv_bi hF
  refine jv_mv (wr := [(h0, .inr (2, [.ref h1, .ref h3])), (h3, .inr (0, [.ref h4, .ref h5, .ref h6, .ref h7, .int ct, .int lo, .int oc])), (h4, .inl (cI, 24, .inl kd)), (h5, .inl (cI, 24, .inl dp)), (h6, .inl (cI, 24, .inl su)), (h7, .inl (cL, 24, .inr (.inl nm)))]) (w1 := [(h1, .inr (1, [.ref h2, .int o_12.1])), (h2, .inl (cC, 3000, .inl o_12.2))]) (va_runV (C := cn_P) (As := [.int o_9]) (rest := []) ⟨hx, hb, hml, hown, ht⟩ (c_P_addIndent l dC dI cI cL cC cZ adK adV h1 h2 s.heap.size zp ch o_9 _ ho_12) (cwV 1 ht (gi_V tw_2_28 tw_2_29 tw_2_30 tw_1_2 tw_2_31) rfl rfl rfl (by decide +kernel) ⟨Nat.le_of_ble_eq_true rfl, Nat.le_of_ble_eq_true rfl⟩) (jv_sv hK hP hD hS hA hV [1, 2] rfl (by decide) rfl (va_recv hK hP (ci := 1) (q0 := 1) rfl rfl)) rfl rfl hl.1 rfl (lv_room (Nat.le_of_ble_eq_true rfl)) dd_W_writeSubtest_12 ⟨Nat.le_of_ble_eq_true rfl, Nat.le_of_ble_eq_true rfl⟩) hP hD hS hA [1, 2] [0, 3, 4, 5, 6, 7] rfl rfl (by decide) (by decide) (fun H_9 locs_10 hP hD hS => ?_)
  have hP : va_P (dC, dI) vwCl [(h0, .inr (2, [.ref h1, .ref h3])), (h1, .inr (1, [.ref h2, .int o_12.1])), (h2, .inl (cC, 3000, .inl o_12.2)), (h3, .inr (0, [.ref h4, .ref h5, .ref h6, .ref h7, .int ct, .int lo, .int oc])), (h4, .inl (cI, 24, .inl kd)), (h5, .inl (cI, 24, .inl dp)), (h6, .inl (cI, 24, .inl su)), (h7, .inl (cL, 24, .inr (.inl nm)))] H_9 := hP.sub [0, 6, 7, 1, 2, 3, 4, 5] rfl
  have hD : va_D A [(h0, .inr (2, [.ref h1, .ref h3])), (h1, .inr (1, [.ref h2, .int o_12.1])), (h2, .inl (cC, 3000, .inl o_12.2)), (h3, .inr (0, [.ref h4, .ref h5, .ref h6, .ref h7, .int ct, .int lo, .int oc])), (h4, .inl (cI, 24, .inl kd)), (h5, .inl (cI, 24, .inl dp)), (h6, .inl (cI, 24, .inl su)), (h7, .inl (cL, 24, .inr (.inl nm)))] := hD.sub [0, 6, 7, 1, 2, 3, 4, 5] (by decide) rfl
  refine lv_aload_n hx hb dd_W_writeSubtest_15 rfl (lv_at hl 0 rfl) ?_
  refine va_get (D := (dC, dI)) (ci := 2) (v := .ref h1) (C := cn_W) (T := tt_W) (N := 2) hx hb ht in_W hown hK hP 0 rfl rfl 0 (by decide) (ht _ tw_1_178) (fun _ h9 => h9) rfl dd_W_writeSubtest_16 ?_
  refine va_ldcS hx hb hown (sk_R (k := 14) hV rfl) dd_W_writeSubtest_19 ?_
  obtain ⟨o_21, ho_21, hF⟩ := jv_bi hF
  refine jv_mv (wr := [(h0, .inr (2, [.ref h1, .ref h3])), (h3, .inr (0, [.ref h4, .ref h5, .ref h6, .ref h7, .int ct, .int lo, .int oc])), (h4, .inl (cI, 24, .inl kd)), (h5, .inl (cI, 24, .inl dp)), (h6, .inl (cI, 24, .inl su)), (h7, .inl (cL, 24, .inr (.inl nm)))]) (w1 := [(h1, .inr (1, [.ref h2, .int o_21.1])), (h2, .inl (cC, 3000, .inl o_21.2))]) (va_runV (C := cn_P) (As := [.ref (adK 2)]) (rest := []) ⟨hx, hb, hml, hown, ht⟩ (c_P_addText l dC dI cI cL cC cZ adK adV h1 h2 H_9.size o_12.1 o_12.2 2 _ ho_21) (cwV 1 ht (gi_V tw_1_194 tw_1_195 tw_1_196 tw_1_2 tw_1_197) rfl rfl rfl (by decide +kernel) ⟨Nat.le_of_ble_eq_true rfl, Nat.le_of_ble_eq_true rfl⟩) (jv_sv hK hP hD hS hA hV [1, 2] rfl (by decide) rfl (va_recv hK hP (ci := 1) (q0 := 1) rfl rfl)) rfl rfl hl.1 rfl (lv_room (Nat.le_of_ble_eq_true rfl)) dd_W_writeSubtest_21 ⟨Nat.le_of_ble_eq_true rfl, Nat.le_of_ble_eq_true rfl⟩) hP hD hS hA [1, 2] [0, 3, 4, 5, 6, 7] rfl rfl (by decide) (by decide) (fun H_11 locs_12 hP hD hS => ?_)
  have hP : va_P (dC, dI) vwCl [(h0, .inr (2, [.ref h1, .ref h3])), (h1, .inr (1, [.ref h2, .int o_21.1])), (h2, .inl (cC, 3000, .inl o_21.2)), (h3, .inr (0, [.ref h4, .ref h5, .ref h6, .ref h7, .int ct, .int lo, .int oc])), (h4, .inl (cI, 24, .inl kd)), (h5, .inl (cI, 24, .inl dp)), (h6, .inl (cI, 24, .inl su)), (h7, .inl (cL, 24, .inr (.inl nm)))] H_11 := hP.sub [0, 6, 7, 1, 2, 3, 4, 5] rfl
  have hD : va_D A [(h0, .inr (2, [.ref h1, .ref h3])), (h1, .inr (1, [.ref h2, .int o_21.1])), (h2, .inl (cC, 3000, .inl o_21.2)), (h3, .inr (0, [.ref h4, .ref h5, .ref h6, .ref h7, .int ct, .int lo, .int oc])), (h4, .inl (cI, 24, .inl kd)), (h5, .inl (cI, 24, .inl dp)), (h6, .inl (cI, 24, .inl su)), (h7, .inl (cL, 24, .inr (.inl nm)))] := hD.sub [0, 6, 7, 1, 2, 3, 4, 5] (by decide) rfl
  refine lv_aload_n hx hb dd_W_writeSubtest_24 rfl (lv_at hl 0 rfl) ?_
  refine va_get (D := (dC, dI)) (ci := 2) (v := .ref h1) (C := cn_W) (T := tt_W) (N := 2) hx hb ht in_W hown hK hP 0 rfl rfl 0 (by decide) (ht _ tw_1_178) (fun _ h9 => h9) rfl dd_W_writeSubtest_25 ?_
  refine lv_aload_n hx hb dd_W_writeSubtest_28 rfl (lv_at hl 0 rfl) ?_
  refine va_get (D := (dC, dI)) (ci := 2) (v := .ref h3) (C := cn_W) (T := tt_W) (N := 2) hx hb ht in_W hown hK hP 0 rfl rfl 1 (by decide) (ht _ tw_1_179) (fun _ h9 => h9) rfl dd_W_writeSubtest_29 ?_
  refine lv_iload_n hx hb dd_W_writeSubtest_32 rfl (lv_at hl 1 rfl) ?_
  obtain ⟨o_33, ho_33, hF⟩ := jv_bi hF
  refine jv_cl (va_runV (C := cn_R) (As := [.int x1]) (rest := [.ref h1]) ⟨hx, hb, hml, hown, ht⟩ (c_R_nameOf l dC dI cI cL cC cZ h3 h4 h5 h6 h7 H_11.size ct lo oc kd dp su nm x1 _ ho_33) (cwV 1 ht (gi_V tw_2_63 tw_1_164 tw_1_165 tw_1_3 tw_1_166) rfl rfl rfl (by decide +kernel) ⟨Nat.le_of_ble_eq_true rfl, Nat.le_of_ble_eq_true rfl⟩) (jv_pv hK hP hD [3, 4, 5, 6, 7] rfl (by decide) rfl (va_recv hK hP (ci := 0) (q0 := 3) rfl rfl)) rfl rfl hl.1 rfl (lv_room (Nat.le_of_ble_eq_true rfl)) dd_W_writeSubtest_33 ⟨Nat.le_of_ble_eq_true rfl, Nat.le_of_ble_eq_true rfl⟩) ?_
  obtain ⟨o_36, ho_36, hF⟩ := jv_bi hF
  refine jv_mv (wr := [(h0, .inr (2, [.ref h1, .ref h3])), (h3, .inr (0, [.ref h4, .ref h5, .ref h6, .ref h7, .int ct, .int lo, .int oc])), (h4, .inl (cI, 24, .inl kd)), (h5, .inl (cI, 24, .inl dp)), (h6, .inl (cI, 24, .inl su)), (h7, .inl (cL, 24, .inr (.inl nm)))]) (w1 := [(h1, .inr (1, [.ref h2, .int o_36.1])), (h2, .inl (cC, 3000, .inl o_36.2))]) (va_runV (C := cn_P) (As := [.long o_33]) (rest := []) ⟨hx, hb, hml, hown, ht⟩ (c_P_addWritten l dC dI cI cL cC cZ h1 h2 H_11.size o_21.1 o_21.2 o_33 _ ho_36) (cwV 1 ht (gi_V tw_2_64 tw_2_65 tw_2_66 tw_1_2 tw_2_67) rfl rfl rfl (by decide +kernel) ⟨Nat.le_of_ble_eq_true rfl, Nat.le_of_ble_eq_true rfl⟩) (jv_pv hK hP hD [1, 2] rfl (by decide) rfl (va_recv hK hP (ci := 1) (q0 := 1) rfl rfl)) rfl rfl hl.1 rfl (lv_room (Nat.le_of_ble_eq_true rfl)) dd_W_writeSubtest_36 ⟨Nat.le_of_ble_eq_true rfl, Nat.le_of_ble_eq_true rfl⟩) hP hD hS hA [1, 2] [0, 3, 4, 5, 6, 7] rfl rfl (by decide) (by decide) (fun H_13 locs_14 hP hD hS => ?_)
  have hP : va_P (dC, dI) vwCl [(h0, .inr (2, [.ref h1, .ref h3])), (h1, .inr (1, [.ref h2, .int o_36.1])), (h2, .inl (cC, 3000, .inl o_36.2)), (h3, .inr (0, [.ref h4, .ref h5, .ref h6, .ref h7, .int ct, .int lo, .int oc])), (h4, .inl (cI, 24, .inl kd)), (h5, .inl (cI, 24, .inl dp)), (h6, .inl (cI, 24, .inl su)), (h7, .inl (cL, 24, .inr (.inl nm)))] H_13 := hP.sub [0, 6, 7, 1, 2, 3, 4, 5] rfl
  have hD : va_D A [(h0, .inr (2, [.ref h1, .ref h3])), (h1, .inr (1, [.ref h2, .int o_36.1])), (h2, .inl (cC, 3000, .inl o_36.2)), (h3, .inr (0, [.ref h4, .ref h5, .ref h6, .ref h7, .int ct, .int lo, .int oc])), (h4, .inl (cI, 24, .inl kd)), (h5, .inl (cI, 24, .inl dp)), (h6, .inl (cI, 24, .inl su)), (h7, .inl (cL, 24, .inr (.inl nm)))] := hD.sub [0, 6, 7, 1, 2, 3, 4, 5] (by decide) rfl
  refine lv_aload_n hx hb dd_W_writeSubtest_39 rfl (lv_at hl 0 rfl) ?_
  refine va_get (D := (dC, dI)) (ci := 2) (v := .ref h1) (C := cn_W) (T := tt_W) (N := 2) hx hb ht in_W hown hK hP 0 rfl rfl 0 (by decide) (ht _ tw_1_178) (fun _ h9 => h9) rfl dd_W_writeSubtest_40 ?_
  refine lv_bipush (v := 10) hx hb dd_W_writeSubtest_43 (by decide) ?_
  obtain ⟨o_45, ho_45, hF⟩ := jv_bi hF
  refine jv_mi (wr := [(h0, .inr (2, [.ref h1, .ref h3])), (h3, .inr (0, [.ref h4, .ref h5, .ref h6, .ref h7, .int ct, .int lo, .int oc])), (h4, .inl (cI, 24, .inl kd)), (h5, .inl (cI, 24, .inl dp)), (h6, .inl (cI, 24, .inl su)), (h7, .inl (cL, 24, .inr (.inl nm)))]) (w1 := [(h1, .inr (1, [.ref h2, .int o_45.2.1])), (h2, .inl (cC, 3000, .inl o_45.2.2))]) (va_runV (C := cn_P) (As := [.int 10]) (rest := []) ⟨hx, hb, hml, hown, ht⟩ (c_P_add l dC dI cI cL cC cZ h1 h2 H_13.size o_36.1 o_36.2 10 _ ho_45) (cwV 1 ht (gi_V tw_2_10 tw_2_7 tw_2_8 tw_1_2 tw_2_9) rfl rfl rfl (by decide +kernel) ⟨Nat.le_of_ble_eq_true rfl, Nat.le_of_ble_eq_true rfl⟩) (jv_pv hK hP hD [1, 2] rfl (by decide) rfl (va_recv hK hP (ci := 1) (q0 := 1) rfl rfl)) rfl rfl hl.1 rfl (lv_room (Nat.le_of_ble_eq_true rfl)) dd_W_writeSubtest_45 ⟨Nat.le_of_ble_eq_true rfl, Nat.le_of_ble_eq_true rfl⟩) hP hD hS hA [1, 2] [0, 3, 4, 5, 6, 7] rfl rfl (by decide) (by decide) (fun H_15 locs_16 hP hD hS => ?_)
  have hP : va_P (dC, dI) vwCl [(h0, .inr (2, [.ref h1, .ref h3])), (h1, .inr (1, [.ref h2, .int o_45.2.1])), (h2, .inl (cC, 3000, .inl o_45.2.2)), (h3, .inr (0, [.ref h4, .ref h5, .ref h6, .ref h7, .int ct, .int lo, .int oc])), (h4, .inl (cI, 24, .inl kd)), (h5, .inl (cI, 24, .inl dp)), (h6, .inl (cI, 24, .inl su)), (h7, .inl (cL, 24, .inr (.inl nm)))] H_15 := hP.sub [0, 6, 7, 1, 2, 3, 4, 5] rfl
  have hD : va_D A [(h0, .inr (2, [.ref h1, .ref h3])), (h1, .inr (1, [.ref h2, .int o_45.2.1])), (h2, .inl (cC, 3000, .inl o_45.2.2)), (h3, .inr (0, [.ref h4, .ref h5, .ref h6, .ref h7, .int ct, .int lo, .int oc])), (h4, .inl (cI, 24, .inl kd)), (h5, .inl (cI, 24, .inl dp)), (h6, .inl (cI, 24, .inl su)), (h7, .inl (cL, 24, .inr (.inl nm)))] := hD.sub [0, 6, 7, 1, 2, 3, 4, 5] (by decide) rfl
  refine lv_pop hx hb dd_W_writeSubtest_48 rfl ?_
  subst hQ
  obtain rfl := Option.some.inj hF
  exact W.vret hx hb hr (fun t ht hW => ⟨⟨(), rfl, trivial, by rw [ht]; exact hP, va_K.moved hW.alike hK, hD⟩, hS.F ht⟩) hS.2.2 dd_W_writeSubtest_49
set_option maxHeartbeats 40000000 in
set_option maxRecDepth 100000 in
theorem c_W_writePlan (l : Launch) (dC : Nat → ClassId) (dI : Nat → Nat → Nat) (cI cL cC cZ : ClassId) (adK adV : Nat → Nat) (h0 h1 h2 h3 h4 h5 h6 h7 : Nat) (sz : Nat) (zp : Int32) (ch : Nat → Int32) (ct : Int32) (lo : Int32) (oc : Int32) (kd : Nat → Int32) (dp : Nat → Int32) (su : Nat → Int32) (nm : Nat → Int64) (x1 : Int32) (out : Int32 × (Nat → Int32)) (hF : fn_W_writePlan ct dp su zp ch x1 = some out) : Met l yy_W_writePlan ws_W_writePlan { frames := 6, cells := 0, slots := 0, locals := 129 } (mS_ adK adV (dC, dI) (tk_ cI cL cC cZ) [(h0, .inr (2, [.ref h1, .ref h3])), (h1, .inr (1, [.ref h2, .int zp])), (h2, .inl (cC, 3000, .inl ch)), (h3, .inr (0, [.ref h4, .ref h5, .ref h6, .ref h7, .int ct, .int lo, .int oc])), (h4, .inl (cI, 24, .inl kd)), (h5, .inl (cI, 24, .inl dp)), (h6, .inl (cI, 24, .inl su)), (h7, .inl (cL, 24, .inr (.inl nm)))] sz [.ref h0, .int x1]) (va_Qv (fun _ : Unit => True) (mB_ (dC, dI) (tk_ cI cL cC cZ) [(h0, .inr (2, [.ref h1, .ref h3])), (h1, .inr (1, [.ref h2, .int out.1])), (h2, .inl (cC, 3000, .inl out.2)), (h3, .inr (0, [.ref h4, .ref h5, .ref h6, .ref h7, .int ct, .int lo, .int oc])), (h4, .inl (cI, 24, .inl kd)), (h5, .inl (cI, 24, .inl dp)), (h6, .inl (cI, 24, .inl su)), (h7, .inl (cL, 24, .inr (.inl nm)))] (va_A [(h0, .inr (2, [.ref h1, .ref h3])), (h1, .inr (1, [.ref h2, .int zp])), (h2, .inl (cC, 3000, .inl ch)), (h3, .inr (0, [.ref h4, .ref h5, .ref h6, .ref h7, .int ct, .int lo, .int oc])), (h4, .inl (cI, 24, .inl kd)), (h5, .inl (cI, 24, .inl dp)), (h6, .inl (cI, 24, .inl su)), (h7, .inl (cL, 24, .inr (.inl nm)))] sz)) (va_A [(h0, .inr (2, [.ref h1, .ref h3])), (h1, .inr (1, [.ref h2, .int zp])), (h2, .inl (cC, 3000, .inl ch)), (h3, .inr (0, [.ref h4, .ref h5, .ref h6, .ref h7, .int ct, .int lo, .int oc])), (h4, .inl (cI, 24, .inl kd)), (h5, .inl (cI, 24, .inl dp)), (h6, .inl (cI, 24, .inl su)), (h7, .inl (cL, 24, .inr (.inl nm)))] sz)) 0 0 (va_A [(h0, .inr (2, [.ref h1, .ref h3])), (h1, .inr (1, [.ref h2, .int zp])), (h2, .inl (cC, 3000, .inl ch)), (h3, .inr (0, [.ref h4, .ref h5, .ref h6, .ref h7, .int ct, .int lo, .int oc])), (h4, .inl (cI, 24, .inl kd)), (h5, .inl (cI, 24, .inl dp)), (h6, .inl (cI, 24, .inl su)), (h7, .inl (cL, 24, .inr (.inl nm)))] sz) := by
  refine Met.ofW (cc := cc_W_writePlan) (maxL := 2) (ret := none) (by decide) rfl ?_
  intro p e s m args below meth c s₁ B hml hv
  obtain ⟨hargs, hsz, hP, hK, hD0, hV⟩ := hv
  have hx := B.exec
  have hb := B.bytes
  have hr := B.returns
  have hts := atoms_spec (ws := ws_W_writePlan) B.pre
  have ht : ∀ w ∈ TB_, w.before args s = true := fun w h => hts w (List.mem_cons_of_mem _ h)
  have hown : s.vm.findClass cn_W = some m.cls := findClass_of_methodNamed B.named
  have hlocks := B.notSynchronized
  subst hsz
  have hD := hD0.self (sz := s.heap.size)
  generalize hAe : va_A [(h0, .inr (2, [.ref h1, .ref h3])), (h1, .inr (1, [.ref h2, .int zp])), (h2, .inl (cC, 3000, .inl ch)), (h3, .inr (0, [.ref h4, .ref h5, .ref h6, .ref h7, .int ct, .int lo, .int oc])), (h4, .inl (cI, 24, .inl kd)), (h5, .inl (cI, 24, .inl dp)), (h6, .inl (cI, 24, .inl su)), (h7, .inl (cL, 24, .inr (.inl nm)))] s.heap.size = A at hD ⊢ hV
  have hA : ∀ q : Nat, s.heap.size ≤ q → A q := fun q h => by rw [← hAe]; exact Or.inr h
  have hS : va_S A s.heap s.heap [] := va_S.rf
  have hP : va_P (dC, dI) vwCl [(h0, .inr (2, [.ref h1, .ref h3])), (h1, .inr (1, [.ref h2, .int zp])), (h2, .inl (cC, 3000, .inl ch)), (h3, .inr (0, [.ref h4, .ref h5, .ref h6, .ref h7, .int ct, .int lo, .int oc])), (h4, .inl (cI, 24, .inl kd)), (h5, .inl (cI, 24, .inl dp)), (h6, .inl (cI, 24, .inl su)), (h7, .inl (cL, 24, .inr (.inl nm)))] s.heap := hP
  have hl := lv_entry [.ref h0, .int x1] (n := 2) (Nat.le_of_ble_eq_true rfl)
  have he : entryFrame m args 2 = _ := (congrArg (fun a => entryFrame m a 2) hargs).trans (lg_entry_eq m [.ref h0, .int x1] 2)
  rw [he]
  generalize (lg_sl [.ref h0, .int x1] ++ List.replicate (2 - (lg_sl [.ref h0, .int x1]).length) Slot.unset).toArray = ls at hl ⊢
  have hl : lv_has ls 2 [(0, .ref h0), (1, .int x1)] := hl
  generalize hQ : MQ below _ args s _ _ _ = Q
  unfold fn_W_writePlan at hF
  refine lv_aload_n hx hb dd_W_writePlan_0 rfl (lv_at hl 0 rfl) ?_
  refine va_get (D := (dC, dI)) (ci := 2) (v := .ref h1) (C := cn_W) (T := tt_W) (N := 2) hx hb ht in_W hown hK hP 0 rfl rfl 0 (by decide) (ht _ tw_1_178) (fun _ h9 => h9) rfl dd_W_writePlan_1 ?_
  refine lv_aload_n hx hb dd_W_writePlan_4 rfl (lv_at hl 0 rfl) ?_
  refine va_get (D := (dC, dI)) (ci := 2) (v := .ref h3) (C := cn_W) (T := tt_W) (N := 2) hx hb ht in_W hown hK hP 0 rfl rfl 1 (by decide) (ht _ tw_1_179) (fun _ h9 => h9) rfl dd_W_writePlan_5 ?_
  refine lv_iload_n hx hb dd_W_writePlan_8 rfl (lv_at hl 1 rfl) ?_
  obtain ⟨o_9, ho_9, hF⟩ := jv_bi hF
  refine jv_ci (va_runV (C := cn_R) (As := [.int x1]) (rest := [.ref h1]) ⟨hx, hb, hml, hown, ht⟩ (c_R_rowDepth l dC dI cI cL cC cZ h3 h4 h5 h6 h7 s.heap.size ct lo oc kd dp su nm x1 _ ho_9) (cwV 1 ht (gi_V tw_2_24 tw_2_25 tw_2_26 tw_1_3 tw_2_27) rfl rfl rfl (by decide +kernel) ⟨Nat.le_of_ble_eq_true rfl, Nat.le_of_ble_eq_true rfl⟩) (jv_pv hK hP hD [3, 4, 5, 6, 7] rfl (by decide) rfl (va_recv hK hP (ci := 0) (q0 := 3) rfl rfl)) rfl rfl hl.1 rfl (lv_room (Nat.le_of_ble_eq_true rfl)) dd_W_writePlan_9 ⟨Nat.le_of_ble_eq_true rfl, Nat.le_of_ble_eq_true rfl⟩) ?_
  obtain ⟨o_12, ho_12, hF⟩ := jv_bi hF
  refine jv_mv (wr := [(h0, .inr (2, [.ref h1, .ref h3])), (h3, .inr (0, [.ref h4, .ref h5, .ref h6, .ref h7, .int ct, .int lo, .int oc])), (h4, .inl (cI, 24, .inl kd)), (h5, .inl (cI, 24, .inl dp)), (h6, .inl (cI, 24, .inl su)), (h7, .inl (cL, 24, .inr (.inl nm)))]) (w1 := [(h1, .inr (1, [.ref h2, .int o_12.1])), (h2, .inl (cC, 3000, .inl o_12.2))]) (va_runV (C := cn_P) (As := [.int o_9]) (rest := []) ⟨hx, hb, hml, hown, ht⟩ (c_P_addIndent l dC dI cI cL cC cZ adK adV h1 h2 s.heap.size zp ch o_9 _ ho_12) (cwV 1 ht (gi_V tw_2_28 tw_2_29 tw_2_30 tw_1_2 tw_2_31) rfl rfl rfl (by decide +kernel) ⟨Nat.le_of_ble_eq_true rfl, Nat.le_of_ble_eq_true rfl⟩) (jv_sv hK hP hD hS hA hV [1, 2] rfl (by decide) rfl (va_recv hK hP (ci := 1) (q0 := 1) rfl rfl)) rfl rfl hl.1 rfl (lv_room (Nat.le_of_ble_eq_true rfl)) dd_W_writePlan_12 ⟨Nat.le_of_ble_eq_true rfl, Nat.le_of_ble_eq_true rfl⟩) hP hD hS hA [1, 2] [0, 3, 4, 5, 6, 7] rfl rfl (by decide) (by decide) (fun H_9 locs_10 hP hD hS => ?_)
  have hP : va_P (dC, dI) vwCl [(h0, .inr (2, [.ref h1, .ref h3])), (h1, .inr (1, [.ref h2, .int o_12.1])), (h2, .inl (cC, 3000, .inl o_12.2)), (h3, .inr (0, [.ref h4, .ref h5, .ref h6, .ref h7, .int ct, .int lo, .int oc])), (h4, .inl (cI, 24, .inl kd)), (h5, .inl (cI, 24, .inl dp)), (h6, .inl (cI, 24, .inl su)), (h7, .inl (cL, 24, .inr (.inl nm)))] H_9 := hP.sub [0, 6, 7, 1, 2, 3, 4, 5] rfl
  have hD : va_D A [(h0, .inr (2, [.ref h1, .ref h3])), (h1, .inr (1, [.ref h2, .int o_12.1])), (h2, .inl (cC, 3000, .inl o_12.2)), (h3, .inr (0, [.ref h4, .ref h5, .ref h6, .ref h7, .int ct, .int lo, .int oc])), (h4, .inl (cI, 24, .inl kd)), (h5, .inl (cI, 24, .inl dp)), (h6, .inl (cI, 24, .inl su)), (h7, .inl (cL, 24, .inr (.inl nm)))] := hD.sub [0, 6, 7, 1, 2, 3, 4, 5] (by decide) rfl
  refine lv_aload_n hx hb dd_W_writePlan_15 rfl (lv_at hl 0 rfl) ?_
  refine va_get (D := (dC, dI)) (ci := 2) (v := .ref h1) (C := cn_W) (T := tt_W) (N := 2) hx hb ht in_W hown hK hP 0 rfl rfl 0 (by decide) (ht _ tw_1_178) (fun _ h9 => h9) rfl dd_W_writePlan_16 ?_
  refine va_ldcS hx hb hown (sk_R (k := 13) hV rfl) dd_W_writePlan_19 ?_
  obtain ⟨o_21, ho_21, hF⟩ := jv_bi hF
  refine jv_mv (wr := [(h0, .inr (2, [.ref h1, .ref h3])), (h3, .inr (0, [.ref h4, .ref h5, .ref h6, .ref h7, .int ct, .int lo, .int oc])), (h4, .inl (cI, 24, .inl kd)), (h5, .inl (cI, 24, .inl dp)), (h6, .inl (cI, 24, .inl su)), (h7, .inl (cL, 24, .inr (.inl nm)))]) (w1 := [(h1, .inr (1, [.ref h2, .int o_21.1])), (h2, .inl (cC, 3000, .inl o_21.2))]) (va_runV (C := cn_P) (As := [.ref (adK 8)]) (rest := []) ⟨hx, hb, hml, hown, ht⟩ (c_P_addText l dC dI cI cL cC cZ adK adV h1 h2 H_9.size o_12.1 o_12.2 8 _ ho_21) (cwV 1 ht (gi_V tw_1_194 tw_1_195 tw_1_196 tw_1_2 tw_1_197) rfl rfl rfl (by decide +kernel) ⟨Nat.le_of_ble_eq_true rfl, Nat.le_of_ble_eq_true rfl⟩) (jv_sv hK hP hD hS hA hV [1, 2] rfl (by decide) rfl (va_recv hK hP (ci := 1) (q0 := 1) rfl rfl)) rfl rfl hl.1 rfl (lv_room (Nat.le_of_ble_eq_true rfl)) dd_W_writePlan_21 ⟨Nat.le_of_ble_eq_true rfl, Nat.le_of_ble_eq_true rfl⟩) hP hD hS hA [1, 2] [0, 3, 4, 5, 6, 7] rfl rfl (by decide) (by decide) (fun H_11 locs_12 hP hD hS => ?_)
  have hP : va_P (dC, dI) vwCl [(h0, .inr (2, [.ref h1, .ref h3])), (h1, .inr (1, [.ref h2, .int o_21.1])), (h2, .inl (cC, 3000, .inl o_21.2)), (h3, .inr (0, [.ref h4, .ref h5, .ref h6, .ref h7, .int ct, .int lo, .int oc])), (h4, .inl (cI, 24, .inl kd)), (h5, .inl (cI, 24, .inl dp)), (h6, .inl (cI, 24, .inl su)), (h7, .inl (cL, 24, .inr (.inl nm)))] H_11 := hP.sub [0, 6, 7, 1, 2, 3, 4, 5] rfl
  have hD : va_D A [(h0, .inr (2, [.ref h1, .ref h3])), (h1, .inr (1, [.ref h2, .int o_21.1])), (h2, .inl (cC, 3000, .inl o_21.2)), (h3, .inr (0, [.ref h4, .ref h5, .ref h6, .ref h7, .int ct, .int lo, .int oc])), (h4, .inl (cI, 24, .inl kd)), (h5, .inl (cI, 24, .inl dp)), (h6, .inl (cI, 24, .inl su)), (h7, .inl (cL, 24, .inr (.inl nm)))] := hD.sub [0, 6, 7, 1, 2, 3, 4, 5] (by decide) rfl
  refine lv_aload_n hx hb dd_W_writePlan_24 rfl (lv_at hl 0 rfl) ?_
  refine va_get (D := (dC, dI)) (ci := 2) (v := .ref h1) (C := cn_W) (T := tt_W) (N := 2) hx hb ht in_W hown hK hP 0 rfl rfl 0 (by decide) (ht _ tw_1_178) (fun _ h9 => h9) rfl dd_W_writePlan_25 ?_
  refine lv_aload_n hx hb dd_W_writePlan_28 rfl (lv_at hl 0 rfl) ?_
  refine va_get (D := (dC, dI)) (ci := 2) (v := .ref h3) (C := cn_W) (T := tt_W) (N := 2) hx hb ht in_W hown hK hP 0 rfl rfl 1 (by decide) (ht _ tw_1_179) (fun _ h9 => h9) rfl dd_W_writePlan_29 ?_
  refine lv_iload_n hx hb dd_W_writePlan_32 rfl (lv_at hl 1 rfl) ?_
  obtain ⟨o_33, ho_33, hF⟩ := jv_bi hF
  refine jv_ci (va_runV (C := cn_R) (As := [.int x1]) (rest := [.ref h1]) ⟨hx, hb, hml, hown, ht⟩ (c_R_rowSize l dC dI cI cL cC cZ h3 h4 h5 h6 h7 H_11.size ct lo oc kd dp su nm x1 _ ho_33) (cwV 1 ht (gi_V tw_2_35 tw_2_36 tw_2_37 tw_1_3 tw_2_38) rfl rfl rfl (by decide +kernel) ⟨Nat.le_of_ble_eq_true rfl, Nat.le_of_ble_eq_true rfl⟩) (jv_pv hK hP hD [3, 4, 5, 6, 7] rfl (by decide) rfl (va_recv hK hP (ci := 0) (q0 := 3) rfl rfl)) rfl rfl hl.1 rfl (lv_room (Nat.le_of_ble_eq_true rfl)) dd_W_writePlan_33 ⟨Nat.le_of_ble_eq_true rfl, Nat.le_of_ble_eq_true rfl⟩) ?_
  obtain ⟨o_36, ho_36, hF⟩ := jv_bi hF
  refine jv_mv (wr := [(h0, .inr (2, [.ref h1, .ref h3])), (h3, .inr (0, [.ref h4, .ref h5, .ref h6, .ref h7, .int ct, .int lo, .int oc])), (h4, .inl (cI, 24, .inl kd)), (h5, .inl (cI, 24, .inl dp)), (h6, .inl (cI, 24, .inl su)), (h7, .inl (cL, 24, .inr (.inl nm)))]) (w1 := [(h1, .inr (1, [.ref h2, .int o_36.1])), (h2, .inl (cC, 3000, .inl o_36.2))]) (va_runV (C := cn_P) (As := [.int o_33]) (rest := []) ⟨hx, hb, hml, hown, ht⟩ (c_P_addNumber l dC dI cI cL cC cZ h1 h2 H_11.size o_21.1 o_21.2 o_33 _ ho_36) (cwV 1 ht (gi_V tw_2_43 tw_2_44 tw_2_45 tw_1_2 tw_2_46) rfl rfl rfl (by decide +kernel) ⟨Nat.le_of_ble_eq_true rfl, Nat.le_of_ble_eq_true rfl⟩) (jv_pv hK hP hD [1, 2] rfl (by decide) rfl (va_recv hK hP (ci := 1) (q0 := 1) rfl rfl)) rfl rfl hl.1 rfl (lv_room (Nat.le_of_ble_eq_true rfl)) dd_W_writePlan_36 ⟨Nat.le_of_ble_eq_true rfl, Nat.le_of_ble_eq_true rfl⟩) hP hD hS hA [1, 2] [0, 3, 4, 5, 6, 7] rfl rfl (by decide) (by decide) (fun H_13 locs_14 hP hD hS => ?_)
  have hP : va_P (dC, dI) vwCl [(h0, .inr (2, [.ref h1, .ref h3])), (h1, .inr (1, [.ref h2, .int o_36.1])), (h2, .inl (cC, 3000, .inl o_36.2)), (h3, .inr (0, [.ref h4, .ref h5, .ref h6, .ref h7, .int ct, .int lo, .int oc])), (h4, .inl (cI, 24, .inl kd)), (h5, .inl (cI, 24, .inl dp)), (h6, .inl (cI, 24, .inl su)), (h7, .inl (cL, 24, .inr (.inl nm)))] H_13 := hP.sub [0, 6, 7, 1, 2, 3, 4, 5] rfl
  have hD : va_D A [(h0, .inr (2, [.ref h1, .ref h3])), (h1, .inr (1, [.ref h2, .int o_36.1])), (h2, .inl (cC, 3000, .inl o_36.2)), (h3, .inr (0, [.ref h4, .ref h5, .ref h6, .ref h7, .int ct, .int lo, .int oc])), (h4, .inl (cI, 24, .inl kd)), (h5, .inl (cI, 24, .inl dp)), (h6, .inl (cI, 24, .inl su)), (h7, .inl (cL, 24, .inr (.inl nm)))] := hD.sub [0, 6, 7, 1, 2, 3, 4, 5] (by decide) rfl
  refine lv_aload_n hx hb dd_W_writePlan_39 rfl (lv_at hl 0 rfl) ?_
  refine va_get (D := (dC, dI)) (ci := 2) (v := .ref h1) (C := cn_W) (T := tt_W) (N := 2) hx hb ht in_W hown hK hP 0 rfl rfl 0 (by decide) (ht _ tw_1_178) (fun _ h9 => h9) rfl dd_W_writePlan_40 ?_
  refine lv_bipush (v := 10) hx hb dd_W_writePlan_43 (by decide) ?_
  obtain ⟨o_45, ho_45, hF⟩ := jv_bi hF
  refine jv_mi (wr := [(h0, .inr (2, [.ref h1, .ref h3])), (h3, .inr (0, [.ref h4, .ref h5, .ref h6, .ref h7, .int ct, .int lo, .int oc])), (h4, .inl (cI, 24, .inl kd)), (h5, .inl (cI, 24, .inl dp)), (h6, .inl (cI, 24, .inl su)), (h7, .inl (cL, 24, .inr (.inl nm)))]) (w1 := [(h1, .inr (1, [.ref h2, .int o_45.2.1])), (h2, .inl (cC, 3000, .inl o_45.2.2))]) (va_runV (C := cn_P) (As := [.int 10]) (rest := []) ⟨hx, hb, hml, hown, ht⟩ (c_P_add l dC dI cI cL cC cZ h1 h2 H_13.size o_36.1 o_36.2 10 _ ho_45) (cwV 1 ht (gi_V tw_2_10 tw_2_7 tw_2_8 tw_1_2 tw_2_9) rfl rfl rfl (by decide +kernel) ⟨Nat.le_of_ble_eq_true rfl, Nat.le_of_ble_eq_true rfl⟩) (jv_pv hK hP hD [1, 2] rfl (by decide) rfl (va_recv hK hP (ci := 1) (q0 := 1) rfl rfl)) rfl rfl hl.1 rfl (lv_room (Nat.le_of_ble_eq_true rfl)) dd_W_writePlan_45 ⟨Nat.le_of_ble_eq_true rfl, Nat.le_of_ble_eq_true rfl⟩) hP hD hS hA [1, 2] [0, 3, 4, 5, 6, 7] rfl rfl (by decide) (by decide) (fun H_15 locs_16 hP hD hS => ?_)
  have hP : va_P (dC, dI) vwCl [(h0, .inr (2, [.ref h1, .ref h3])), (h1, .inr (1, [.ref h2, .int o_45.2.1])), (h2, .inl (cC, 3000, .inl o_45.2.2)), (h3, .inr (0, [.ref h4, .ref h5, .ref h6, .ref h7, .int ct, .int lo, .int oc])), (h4, .inl (cI, 24, .inl kd)), (h5, .inl (cI, 24, .inl dp)), (h6, .inl (cI, 24, .inl su)), (h7, .inl (cL, 24, .inr (.inl nm)))] H_15 := hP.sub [0, 6, 7, 1, 2, 3, 4, 5] rfl
  have hD : va_D A [(h0, .inr (2, [.ref h1, .ref h3])), (h1, .inr (1, [.ref h2, .int o_45.2.1])), (h2, .inl (cC, 3000, .inl o_45.2.2)), (h3, .inr (0, [.ref h4, .ref h5, .ref h6, .ref h7, .int ct, .int lo, .int oc])), (h4, .inl (cI, 24, .inl kd)), (h5, .inl (cI, 24, .inl dp)), (h6, .inl (cI, 24, .inl su)), (h7, .inl (cL, 24, .inr (.inl nm)))] := hD.sub [0, 6, 7, 1, 2, 3, 4, 5] (by decide) rfl
  refine lv_pop hx hb dd_W_writePlan_48 rfl ?_
  subst hQ
  obtain rfl := Option.some.inj hF
  exact W.vret hx hb hr (fun t ht hW => ⟨⟨(), rfl, trivial, by rw [ht]; exact hP, va_K.moved hW.alike hK, hD⟩, hS.F ht⟩) hS.2.2 dd_W_writePlan_49
set_option maxHeartbeats 40000000 in
set_option maxRecDepth 100000 in
theorem c_W_writeVerdict (l : Launch) (dC : Nat → ClassId) (dI : Nat → Nat → Nat) (cI cL cC cZ : ClassId) (adK adV : Nat → Nat) (h0 h1 h2 h3 h4 h5 h6 h7 : Nat) (sz : Nat) (zp : Int32) (ch : Nat → Int32) (ct : Int32) (lo : Int32) (oc : Int32) (kd : Nat → Int32) (dp : Nat → Int32) (su : Nat → Int32) (nm : Nat → Int64) (x1 : Int32) (out : Int32 × (Nat → Int32)) (hF : fn_W_writeVerdict ct kd dp su nm zp ch x1 = some out) : Met l yy_W_writeVerdict ws_W_writeVerdict { frames := 6, cells := 0, slots := 0, locals := 129 } (mS_ adK adV (dC, dI) (tk_ cI cL cC cZ) [(h0, .inr (2, [.ref h1, .ref h3])), (h1, .inr (1, [.ref h2, .int zp])), (h2, .inl (cC, 3000, .inl ch)), (h3, .inr (0, [.ref h4, .ref h5, .ref h6, .ref h7, .int ct, .int lo, .int oc])), (h4, .inl (cI, 24, .inl kd)), (h5, .inl (cI, 24, .inl dp)), (h6, .inl (cI, 24, .inl su)), (h7, .inl (cL, 24, .inr (.inl nm)))] sz [.ref h0, .int x1]) (va_Qv (fun _ : Unit => True) (mB_ (dC, dI) (tk_ cI cL cC cZ) [(h0, .inr (2, [.ref h1, .ref h3])), (h1, .inr (1, [.ref h2, .int out.1])), (h2, .inl (cC, 3000, .inl out.2)), (h3, .inr (0, [.ref h4, .ref h5, .ref h6, .ref h7, .int ct, .int lo, .int oc])), (h4, .inl (cI, 24, .inl kd)), (h5, .inl (cI, 24, .inl dp)), (h6, .inl (cI, 24, .inl su)), (h7, .inl (cL, 24, .inr (.inl nm)))] (va_A [(h0, .inr (2, [.ref h1, .ref h3])), (h1, .inr (1, [.ref h2, .int zp])), (h2, .inl (cC, 3000, .inl ch)), (h3, .inr (0, [.ref h4, .ref h5, .ref h6, .ref h7, .int ct, .int lo, .int oc])), (h4, .inl (cI, 24, .inl kd)), (h5, .inl (cI, 24, .inl dp)), (h6, .inl (cI, 24, .inl su)), (h7, .inl (cL, 24, .inr (.inl nm)))] sz)) (va_A [(h0, .inr (2, [.ref h1, .ref h3])), (h1, .inr (1, [.ref h2, .int zp])), (h2, .inl (cC, 3000, .inl ch)), (h3, .inr (0, [.ref h4, .ref h5, .ref h6, .ref h7, .int ct, .int lo, .int oc])), (h4, .inl (cI, 24, .inl kd)), (h5, .inl (cI, 24, .inl dp)), (h6, .inl (cI, 24, .inl su)), (h7, .inl (cL, 24, .inr (.inl nm)))] sz)) 0 0 (va_A [(h0, .inr (2, [.ref h1, .ref h3])), (h1, .inr (1, [.ref h2, .int zp])), (h2, .inl (cC, 3000, .inl ch)), (h3, .inr (0, [.ref h4, .ref h5, .ref h6, .ref h7, .int ct, .int lo, .int oc])), (h4, .inl (cI, 24, .inl kd)), (h5, .inl (cI, 24, .inl dp)), (h6, .inl (cI, 24, .inl su)), (h7, .inl (cL, 24, .inr (.inl nm)))] sz) := by
  refine Met.ofW (cc := cc_W_writeVerdict) (maxL := 3) (ret := none) (by decide) rfl ?_
  intro p e s m args below meth c s₁ B hml hv
  obtain ⟨hargs, hsz, hP, hK, hD0, hV⟩ := hv
  have hx := B.exec
  have hb := B.bytes
  have hr := B.returns
  have hts := atoms_spec (ws := ws_W_writeVerdict) B.pre
  have ht : ∀ w ∈ TB_, w.before args s = true := fun w h => hts w (List.mem_cons_of_mem _ h)
  have hown : s.vm.findClass cn_W = some m.cls := findClass_of_methodNamed B.named
  have hlocks := B.notSynchronized
  subst hsz
  have hD := hD0.self (sz := s.heap.size)
  generalize hAe : va_A [(h0, .inr (2, [.ref h1, .ref h3])), (h1, .inr (1, [.ref h2, .int zp])), (h2, .inl (cC, 3000, .inl ch)), (h3, .inr (0, [.ref h4, .ref h5, .ref h6, .ref h7, .int ct, .int lo, .int oc])), (h4, .inl (cI, 24, .inl kd)), (h5, .inl (cI, 24, .inl dp)), (h6, .inl (cI, 24, .inl su)), (h7, .inl (cL, 24, .inr (.inl nm)))] s.heap.size = A at hD ⊢ hV
  have hA : ∀ q : Nat, s.heap.size ≤ q → A q := fun q h => by rw [← hAe]; exact Or.inr h
  have hS : va_S A s.heap s.heap [] := va_S.rf
  have hP : va_P (dC, dI) vwCl [(h0, .inr (2, [.ref h1, .ref h3])), (h1, .inr (1, [.ref h2, .int zp])), (h2, .inl (cC, 3000, .inl ch)), (h3, .inr (0, [.ref h4, .ref h5, .ref h6, .ref h7, .int ct, .int lo, .int oc])), (h4, .inl (cI, 24, .inl kd)), (h5, .inl (cI, 24, .inl dp)), (h6, .inl (cI, 24, .inl su)), (h7, .inl (cL, 24, .inr (.inl nm)))] s.heap := hP
  have hl := lv_entry [.ref h0, .int x1] (n := 3) (Nat.le_of_ble_eq_true rfl)
  have he : entryFrame m args 3 = _ := (congrArg (fun a => entryFrame m a 3) hargs).trans (lg_entry_eq m [.ref h0, .int x1] 3)
  rw [he]
  generalize (lg_sl [.ref h0, .int x1] ++ List.replicate (3 - (lg_sl [.ref h0, .int x1]).length) Slot.unset).toArray = ls at hl ⊢
  have hl : lv_has ls 3 [(0, .ref h0), (1, .int x1)] := hl
  generalize hQ : MQ below _ args s _ _ _ = Q
  unfold fn_W_writeVerdict at hF
  refine lv_aload_n hx hb dd_W_writeVerdict_0 rfl (lv_at hl 0 rfl) ?_
  refine va_get (D := (dC, dI)) (ci := 2) (v := .ref h3) (C := cn_W) (T := tt_W) (N := 2) hx hb ht in_W hown hK hP 0 rfl rfl 1 (by decide) (ht _ tw_1_179) (fun _ h9 => h9) rfl dd_W_writeVerdict_1 ?_
  refine lv_iload_n hx hb dd_W_writeVerdict_4 rfl (lv_at hl 1 rfl) ?_
  obtain ⟨o_5, ho_5, hF⟩ := jv_bi hF
  refine jv_ci (va_runV (C := cn_R) (As := [.int x1]) (rest := []) ⟨hx, hb, hml, hown, ht⟩ (c_R_kindOf l dC dI cI cL cC cZ h3 h4 h5 h6 h7 s.heap.size ct lo oc kd dp su nm x1 _ ho_5) (cwV 1 ht (gi_V tw_2_51 tw_1_148 tw_1_149 tw_1_3 tw_1_150) rfl rfl rfl (by decide +kernel) ⟨Nat.le_of_ble_eq_true rfl, Nat.le_of_ble_eq_true rfl⟩) (jv_pv hK hP hD [3, 4, 5, 6, 7] rfl (by decide) rfl (va_recv hK hP (ci := 0) (q0 := 3) rfl rfl)) rfl rfl hl.1 rfl (lv_room (Nat.le_of_ble_eq_true rfl)) dd_W_writeVerdict_5 ⟨Nat.le_of_ble_eq_true rfl, Nat.le_of_ble_eq_true rfl⟩) ?_
  refine lv_istore_n (lv' := [(2, .int o_5), (0, .ref h0), (1, .int x1)]) hx hb dd_W_writeVerdict_8 rfl hl (by decide) rfl (fun ls hl => ?_)
  refine lv_aload_n hx hb dd_W_writeVerdict_9 rfl (lv_at hl 1 rfl) ?_
  refine va_get (D := (dC, dI)) (ci := 2) (v := .ref h1) (C := cn_W) (T := tt_W) (N := 2) hx hb ht in_W hown hK hP 0 rfl rfl 0 (by decide) (ht _ tw_1_178) (fun _ h9 => h9) rfl dd_W_writeVerdict_10 ?_
  refine lv_aload_n hx hb dd_W_writeVerdict_13 rfl (lv_at hl 1 rfl) ?_
  refine va_get (D := (dC, dI)) (ci := 2) (v := .ref h3) (C := cn_W) (T := tt_W) (N := 2) hx hb ht in_W hown hK hP 0 rfl rfl 1 (by decide) (ht _ tw_1_179) (fun _ h9 => h9) rfl dd_W_writeVerdict_14 ?_
  refine lv_iload_n hx hb dd_W_writeVerdict_17 rfl (lv_at hl 2 rfl) ?_
  obtain ⟨o_18, ho_18, hF⟩ := jv_bi hF
  refine jv_ci (va_runV (C := cn_R) (As := [.int x1]) (rest := [.ref h1]) ⟨hx, hb, hml, hown, ht⟩ (c_R_depthOf l dC dI cI cL cC cZ h3 h4 h5 h6 h7 s.heap.size ct lo oc kd dp su nm x1 _ ho_18) (cwV 1 ht (gi_V tw_2_52 tw_1_156 tw_1_157 tw_1_3 tw_1_158) rfl rfl rfl (by decide +kernel) ⟨Nat.le_of_ble_eq_true rfl, Nat.le_of_ble_eq_true rfl⟩) (jv_pv hK hP hD [3, 4, 5, 6, 7] rfl (by decide) rfl (va_recv hK hP (ci := 0) (q0 := 3) rfl rfl)) rfl rfl hl.1 rfl (lv_room (Nat.le_of_ble_eq_true rfl)) dd_W_writeVerdict_18 ⟨Nat.le_of_ble_eq_true rfl, Nat.le_of_ble_eq_true rfl⟩) ?_
  obtain ⟨o_21, ho_21, hF⟩ := jv_bi hF
  refine jv_mv (wr := [(h0, .inr (2, [.ref h1, .ref h3])), (h3, .inr (0, [.ref h4, .ref h5, .ref h6, .ref h7, .int ct, .int lo, .int oc])), (h4, .inl (cI, 24, .inl kd)), (h5, .inl (cI, 24, .inl dp)), (h6, .inl (cI, 24, .inl su)), (h7, .inl (cL, 24, .inr (.inl nm)))]) (w1 := [(h1, .inr (1, [.ref h2, .int o_21.1])), (h2, .inl (cC, 3000, .inl o_21.2))]) (va_runV (C := cn_P) (As := [.int o_18]) (rest := []) ⟨hx, hb, hml, hown, ht⟩ (c_P_addIndent l dC dI cI cL cC cZ adK adV h1 h2 s.heap.size zp ch o_18 _ ho_21) (cwV 1 ht (gi_V tw_2_28 tw_2_29 tw_2_30 tw_1_2 tw_2_31) rfl rfl rfl (by decide +kernel) ⟨Nat.le_of_ble_eq_true rfl, Nat.le_of_ble_eq_true rfl⟩) (jv_sv hK hP hD hS hA hV [1, 2] rfl (by decide) rfl (va_recv hK hP (ci := 1) (q0 := 1) rfl rfl)) rfl rfl hl.1 rfl (lv_room (Nat.le_of_ble_eq_true rfl)) dd_W_writeVerdict_21 ⟨Nat.le_of_ble_eq_true rfl, Nat.le_of_ble_eq_true rfl⟩) hP hD hS hA [1, 2] [0, 3, 4, 5, 6, 7] rfl rfl (by decide) (by decide) (fun H_15 locs_16 hP hD hS => ?_)
  have hP : va_P (dC, dI) vwCl [(h0, .inr (2, [.ref h1, .ref h3])), (h1, .inr (1, [.ref h2, .int o_21.1])), (h2, .inl (cC, 3000, .inl o_21.2)), (h3, .inr (0, [.ref h4, .ref h5, .ref h6, .ref h7, .int ct, .int lo, .int oc])), (h4, .inl (cI, 24, .inl kd)), (h5, .inl (cI, 24, .inl dp)), (h6, .inl (cI, 24, .inl su)), (h7, .inl (cL, 24, .inr (.inl nm)))] H_15 := hP.sub [0, 6, 7, 1, 2, 3, 4, 5] rfl
  have hD : va_D A [(h0, .inr (2, [.ref h1, .ref h3])), (h1, .inr (1, [.ref h2, .int o_21.1])), (h2, .inl (cC, 3000, .inl o_21.2)), (h3, .inr (0, [.ref h4, .ref h5, .ref h6, .ref h7, .int ct, .int lo, .int oc])), (h4, .inl (cI, 24, .inl kd)), (h5, .inl (cI, 24, .inl dp)), (h6, .inl (cI, 24, .inl su)), (h7, .inl (cL, 24, .inr (.inl nm)))] := hD.sub [0, 6, 7, 1, 2, 3, 4, 5] (by decide) rfl
  refine lv_aload_n hx hb dd_W_writeVerdict_24 rfl (lv_at hl 1 rfl) ?_
  refine va_get (D := (dC, dI)) (ci := 2) (v := .ref h1) (C := cn_W) (T := tt_W) (N := 2) hx hb ht in_W hown hK hP 0 rfl rfl 0 (by decide) (ht _ tw_1_178) (fun _ h9 => h9) rfl dd_W_writeVerdict_25 ?_
  refine lv_iload_n hx hb dd_W_writeVerdict_28 rfl (lv_at hl 0 rfl) ?_
  obtain ⟨o_29, ho_29, hF⟩ := jv_bi hF
  refine jv_cs (va_runS (As := [.int o_5]) (rest := [.ref h1]) ⟨hx, hb, hml, hown, ht⟩ (c_W_verdictOf l dC dI cI cL cC cZ adK adV H_15.size o_5 _ ho_29) (va_cwS 1 ht (gi_S tw_2_53 tw_2_54 tw_1_6 tw_2_55) rfl rfl rfl (by decide +kernel) ⟨Nat.le_of_ble_eq_true rfl, Nat.le_of_ble_eq_true rfl⟩) (jv_ss hK hP hD hS hA hV [] rfl (by decide) rfl) rfl rfl hl.1 rfl (lv_room (Nat.le_of_ble_eq_true rfl)) dd_W_writeVerdict_29 ⟨Nat.le_of_ble_eq_true rfl, Nat.le_of_ble_eq_true rfl⟩) ?_
  obtain ⟨o_32, ho_32, hF⟩ := jv_bi hF
  refine jv_mv (wr := [(h0, .inr (2, [.ref h1, .ref h3])), (h3, .inr (0, [.ref h4, .ref h5, .ref h6, .ref h7, .int ct, .int lo, .int oc])), (h4, .inl (cI, 24, .inl kd)), (h5, .inl (cI, 24, .inl dp)), (h6, .inl (cI, 24, .inl su)), (h7, .inl (cL, 24, .inr (.inl nm)))]) (w1 := [(h1, .inr (1, [.ref h2, .int o_32.1])), (h2, .inl (cC, 3000, .inl o_32.2))]) (va_runV (C := cn_P) (As := [.ref (adK o_29)]) (rest := []) ⟨hx, hb, hml, hown, ht⟩ (c_P_addText l dC dI cI cL cC cZ adK adV h1 h2 H_15.size o_21.1 o_21.2 o_29 _ ho_32) (cwV 1 ht (gi_V tw_1_194 tw_1_195 tw_1_196 tw_1_2 tw_1_197) rfl rfl rfl (by decide +kernel) ⟨Nat.le_of_ble_eq_true rfl, Nat.le_of_ble_eq_true rfl⟩) (jv_sv hK hP hD hS hA hV [1, 2] rfl (by decide) rfl (va_recv hK hP (ci := 1) (q0 := 1) rfl rfl)) rfl rfl hl.1 rfl (lv_room (Nat.le_of_ble_eq_true rfl)) dd_W_writeVerdict_32 ⟨Nat.le_of_ble_eq_true rfl, Nat.le_of_ble_eq_true rfl⟩) hP hD hS hA [1, 2] [0, 3, 4, 5, 6, 7] rfl rfl (by decide) (by decide) (fun H_17 locs_18 hP hD hS => ?_)
  have hP : va_P (dC, dI) vwCl [(h0, .inr (2, [.ref h1, .ref h3])), (h1, .inr (1, [.ref h2, .int o_32.1])), (h2, .inl (cC, 3000, .inl o_32.2)), (h3, .inr (0, [.ref h4, .ref h5, .ref h6, .ref h7, .int ct, .int lo, .int oc])), (h4, .inl (cI, 24, .inl kd)), (h5, .inl (cI, 24, .inl dp)), (h6, .inl (cI, 24, .inl su)), (h7, .inl (cL, 24, .inr (.inl nm)))] H_17 := hP.sub [0, 6, 7, 1, 2, 3, 4, 5] rfl
  have hD : va_D A [(h0, .inr (2, [.ref h1, .ref h3])), (h1, .inr (1, [.ref h2, .int o_32.1])), (h2, .inl (cC, 3000, .inl o_32.2)), (h3, .inr (0, [.ref h4, .ref h5, .ref h6, .ref h7, .int ct, .int lo, .int oc])), (h4, .inl (cI, 24, .inl kd)), (h5, .inl (cI, 24, .inl dp)), (h6, .inl (cI, 24, .inl su)), (h7, .inl (cL, 24, .inr (.inl nm)))] := hD.sub [0, 6, 7, 1, 2, 3, 4, 5] (by decide) rfl
  refine lv_aload_n hx hb dd_W_writeVerdict_35 rfl (lv_at hl 1 rfl) ?_
  refine va_get (D := (dC, dI)) (ci := 2) (v := .ref h1) (C := cn_W) (T := tt_W) (N := 2) hx hb ht in_W hown hK hP 0 rfl rfl 0 (by decide) (ht _ tw_1_178) (fun _ h9 => h9) rfl dd_W_writeVerdict_36 ?_
  refine lv_aload_n hx hb dd_W_writeVerdict_39 rfl (lv_at hl 1 rfl) ?_
  refine va_get (D := (dC, dI)) (ci := 2) (v := .ref h3) (C := cn_W) (T := tt_W) (N := 2) hx hb ht in_W hown hK hP 0 rfl rfl 1 (by decide) (ht _ tw_1_179) (fun _ h9 => h9) rfl dd_W_writeVerdict_40 ?_
  refine lv_iload_n hx hb dd_W_writeVerdict_43 rfl (lv_at hl 2 rfl) ?_
  obtain ⟨o_44, ho_44, hF⟩ := jv_bi hF
  refine jv_ci (va_runV (C := cn_R) (As := [.int x1]) (rest := [.ref h1]) ⟨hx, hb, hml, hown, ht⟩ (c_R_placeOf l dC dI cI cL cC cZ h3 h4 h5 h6 h7 H_17.size ct lo oc kd dp su nm x1 _ ho_44) (cwV 1 ht (gi_V tw_2_58 tw_2_59 tw_2_60 tw_1_3 tw_2_61) rfl rfl rfl (by decide +kernel) ⟨Nat.le_of_ble_eq_true rfl, Nat.le_of_ble_eq_true rfl⟩) (jv_pv hK hP hD [3, 4, 5, 6, 7] rfl (by decide) rfl (va_recv hK hP (ci := 0) (q0 := 3) rfl rfl)) rfl rfl hl.1 rfl (lv_room (Nat.le_of_ble_eq_true rfl)) dd_W_writeVerdict_44 ⟨Nat.le_of_ble_eq_true rfl, Nat.le_of_ble_eq_true rfl⟩) ?_
  obtain ⟨o_47, ho_47, hF⟩ := jv_bi hF
  refine jv_mv (wr := [(h0, .inr (2, [.ref h1, .ref h3])), (h3, .inr (0, [.ref h4, .ref h5, .ref h6, .ref h7, .int ct, .int lo, .int oc])), (h4, .inl (cI, 24, .inl kd)), (h5, .inl (cI, 24, .inl dp)), (h6, .inl (cI, 24, .inl su)), (h7, .inl (cL, 24, .inr (.inl nm)))]) (w1 := [(h1, .inr (1, [.ref h2, .int o_47.1])), (h2, .inl (cC, 3000, .inl o_47.2))]) (va_runV (C := cn_P) (As := [.int o_44]) (rest := []) ⟨hx, hb, hml, hown, ht⟩ (c_P_addNumber l dC dI cI cL cC cZ h1 h2 H_17.size o_32.1 o_32.2 o_44 _ ho_47) (cwV 1 ht (gi_V tw_2_43 tw_2_44 tw_2_45 tw_1_2 tw_2_46) rfl rfl rfl (by decide +kernel) ⟨Nat.le_of_ble_eq_true rfl, Nat.le_of_ble_eq_true rfl⟩) (jv_pv hK hP hD [1, 2] rfl (by decide) rfl (va_recv hK hP (ci := 1) (q0 := 1) rfl rfl)) rfl rfl hl.1 rfl (lv_room (Nat.le_of_ble_eq_true rfl)) dd_W_writeVerdict_47 ⟨Nat.le_of_ble_eq_true rfl, Nat.le_of_ble_eq_true rfl⟩) hP hD hS hA [1, 2] [0, 3, 4, 5, 6, 7] rfl rfl (by decide) (by decide) (fun H_19 locs_20 hP hD hS => ?_)
  have hP : va_P (dC, dI) vwCl [(h0, .inr (2, [.ref h1, .ref h3])), (h1, .inr (1, [.ref h2, .int o_47.1])), (h2, .inl (cC, 3000, .inl o_47.2)), (h3, .inr (0, [.ref h4, .ref h5, .ref h6, .ref h7, .int ct, .int lo, .int oc])), (h4, .inl (cI, 24, .inl kd)), (h5, .inl (cI, 24, .inl dp)), (h6, .inl (cI, 24, .inl su)), (h7, .inl (cL, 24, .inr (.inl nm)))] H_19 := hP.sub [0, 6, 7, 1, 2, 3, 4, 5] rfl
  have hD : va_D A [(h0, .inr (2, [.ref h1, .ref h3])), (h1, .inr (1, [.ref h2, .int o_47.1])), (h2, .inl (cC, 3000, .inl o_47.2)), (h3, .inr (0, [.ref h4, .ref h5, .ref h6, .ref h7, .int ct, .int lo, .int oc])), (h4, .inl (cI, 24, .inl kd)), (h5, .inl (cI, 24, .inl dp)), (h6, .inl (cI, 24, .inl su)), (h7, .inl (cL, 24, .inr (.inl nm)))] := hD.sub [0, 6, 7, 1, 2, 3, 4, 5] (by decide) rfl
  refine lv_aload_n hx hb dd_W_writeVerdict_50 rfl (lv_at hl 1 rfl) ?_
  refine va_get (D := (dC, dI)) (ci := 2) (v := .ref h1) (C := cn_W) (T := tt_W) (N := 2) hx hb ht in_W hown hK hP 0 rfl rfl 0 (by decide) (ht _ tw_1_178) (fun _ h9 => h9) rfl dd_W_writeVerdict_51 ?_
  refine va_ldcS hx hb hown (sk_R (k := 15) hV rfl) dd_W_writeVerdict_54 ?_
  obtain ⟨o_56, ho_56, hF⟩ := jv_bi hF
  refine jv_mv (wr := [(h0, .inr (2, [.ref h1, .ref h3])), (h3, .inr (0, [.ref h4, .ref h5, .ref h6, .ref h7, .int ct, .int lo, .int oc])), (h4, .inl (cI, 24, .inl kd)), (h5, .inl (cI, 24, .inl dp)), (h6, .inl (cI, 24, .inl su)), (h7, .inl (cL, 24, .inr (.inl nm)))]) (w1 := [(h1, .inr (1, [.ref h2, .int o_56.1])), (h2, .inl (cC, 3000, .inl o_56.2))]) (va_runV (C := cn_P) (As := [.ref (adK 5)]) (rest := []) ⟨hx, hb, hml, hown, ht⟩ (c_P_addText l dC dI cI cL cC cZ adK adV h1 h2 H_19.size o_47.1 o_47.2 5 _ ho_56) (cwV 1 ht (gi_V tw_1_194 tw_1_195 tw_1_196 tw_1_2 tw_1_197) rfl rfl rfl (by decide +kernel) ⟨Nat.le_of_ble_eq_true rfl, Nat.le_of_ble_eq_true rfl⟩) (jv_sv hK hP hD hS hA hV [1, 2] rfl (by decide) rfl (va_recv hK hP (ci := 1) (q0 := 1) rfl rfl)) rfl rfl hl.1 rfl (lv_room (Nat.le_of_ble_eq_true rfl)) dd_W_writeVerdict_56 ⟨Nat.le_of_ble_eq_true rfl, Nat.le_of_ble_eq_true rfl⟩) hP hD hS hA [1, 2] [0, 3, 4, 5, 6, 7] rfl rfl (by decide) (by decide) (fun H_21 locs_22 hP hD hS => ?_)
  have hP : va_P (dC, dI) vwCl [(h0, .inr (2, [.ref h1, .ref h3])), (h1, .inr (1, [.ref h2, .int o_56.1])), (h2, .inl (cC, 3000, .inl o_56.2)), (h3, .inr (0, [.ref h4, .ref h5, .ref h6, .ref h7, .int ct, .int lo, .int oc])), (h4, .inl (cI, 24, .inl kd)), (h5, .inl (cI, 24, .inl dp)), (h6, .inl (cI, 24, .inl su)), (h7, .inl (cL, 24, .inr (.inl nm)))] H_21 := hP.sub [0, 6, 7, 1, 2, 3, 4, 5] rfl
  have hD : va_D A [(h0, .inr (2, [.ref h1, .ref h3])), (h1, .inr (1, [.ref h2, .int o_56.1])), (h2, .inl (cC, 3000, .inl o_56.2)), (h3, .inr (0, [.ref h4, .ref h5, .ref h6, .ref h7, .int ct, .int lo, .int oc])), (h4, .inl (cI, 24, .inl kd)), (h5, .inl (cI, 24, .inl dp)), (h6, .inl (cI, 24, .inl su)), (h7, .inl (cL, 24, .inr (.inl nm)))] := hD.sub [0, 6, 7, 1, 2, 3, 4, 5] (by decide) rfl
  refine lv_aload_n hx hb dd_W_writeVerdict_59 rfl (lv_at hl 1 rfl) ?_
  refine va_get (D := (dC, dI)) (ci := 2) (v := .ref h1) (C := cn_W) (T := tt_W) (N := 2) hx hb ht in_W hown hK hP 0 rfl rfl 0 (by decide) (ht _ tw_1_178) (fun _ h9 => h9) rfl dd_W_writeVerdict_60 ?_
  refine lv_aload_n hx hb dd_W_writeVerdict_63 rfl (lv_at hl 1 rfl) ?_
  refine va_get (D := (dC, dI)) (ci := 2) (v := .ref h3) (C := cn_W) (T := tt_W) (N := 2) hx hb ht in_W hown hK hP 0 rfl rfl 1 (by decide) (ht _ tw_1_179) (fun _ h9 => h9) rfl dd_W_writeVerdict_64 ?_
  refine lv_iload_n hx hb dd_W_writeVerdict_67 rfl (lv_at hl 2 rfl) ?_
  obtain ⟨o_68, ho_68, hF⟩ := jv_bi hF
  refine jv_cl (va_runV (C := cn_R) (As := [.int x1]) (rest := [.ref h1]) ⟨hx, hb, hml, hown, ht⟩ (c_R_nameOf l dC dI cI cL cC cZ h3 h4 h5 h6 h7 H_21.size ct lo oc kd dp su nm x1 _ ho_68) (cwV 1 ht (gi_V tw_2_63 tw_1_164 tw_1_165 tw_1_3 tw_1_166) rfl rfl rfl (by decide +kernel) ⟨Nat.le_of_ble_eq_true rfl, Nat.le_of_ble_eq_true rfl⟩) (jv_pv hK hP hD [3, 4, 5, 6, 7] rfl (by decide) rfl (va_recv hK hP (ci := 0) (q0 := 3) rfl rfl)) rfl rfl hl.1 rfl (lv_room (Nat.le_of_ble_eq_true rfl)) dd_W_writeVerdict_68 ⟨Nat.le_of_ble_eq_true rfl, Nat.le_of_ble_eq_true rfl⟩) ?_
  obtain ⟨o_71, ho_71, hF⟩ := jv_bi hF
  refine jv_mv (wr := [(h0, .inr (2, [.ref h1, .ref h3])), (h3, .inr (0, [.ref h4, .ref h5, .ref h6, .ref h7, .int ct, .int lo, .int oc])), (h4, .inl (cI, 24, .inl kd)), (h5, .inl (cI, 24, .inl dp)), (h6, .inl (cI, 24, .inl su)), (h7, .inl (cL, 24, .inr (.inl nm)))]) (w1 := [(h1, .inr (1, [.ref h2, .int o_71.1])), (h2, .inl (cC, 3000, .inl o_71.2))]) (va_runV (C := cn_P) (As := [.long o_68]) (rest := []) ⟨hx, hb, hml, hown, ht⟩ (c_P_addWritten l dC dI cI cL cC cZ h1 h2 H_21.size o_56.1 o_56.2 o_68 _ ho_71) (cwV 1 ht (gi_V tw_2_64 tw_2_65 tw_2_66 tw_1_2 tw_2_67) rfl rfl rfl (by decide +kernel) ⟨Nat.le_of_ble_eq_true rfl, Nat.le_of_ble_eq_true rfl⟩) (jv_pv hK hP hD [1, 2] rfl (by decide) rfl (va_recv hK hP (ci := 1) (q0 := 1) rfl rfl)) rfl rfl hl.1 rfl (lv_room (Nat.le_of_ble_eq_true rfl)) dd_W_writeVerdict_71 ⟨Nat.le_of_ble_eq_true rfl, Nat.le_of_ble_eq_true rfl⟩) hP hD hS hA [1, 2] [0, 3, 4, 5, 6, 7] rfl rfl (by decide) (by decide) (fun H_23 locs_24 hP hD hS => ?_)
  have hP : va_P (dC, dI) vwCl [(h0, .inr (2, [.ref h1, .ref h3])), (h1, .inr (1, [.ref h2, .int o_71.1])), (h2, .inl (cC, 3000, .inl o_71.2)), (h3, .inr (0, [.ref h4, .ref h5, .ref h6, .ref h7, .int ct, .int lo, .int oc])), (h4, .inl (cI, 24, .inl kd)), (h5, .inl (cI, 24, .inl dp)), (h6, .inl (cI, 24, .inl su)), (h7, .inl (cL, 24, .inr (.inl nm)))] H_23 := hP.sub [0, 6, 7, 1, 2, 3, 4, 5] rfl
  have hD : va_D A [(h0, .inr (2, [.ref h1, .ref h3])), (h1, .inr (1, [.ref h2, .int o_71.1])), (h2, .inl (cC, 3000, .inl o_71.2)), (h3, .inr (0, [.ref h4, .ref h5, .ref h6, .ref h7, .int ct, .int lo, .int oc])), (h4, .inl (cI, 24, .inl kd)), (h5, .inl (cI, 24, .inl dp)), (h6, .inl (cI, 24, .inl su)), (h7, .inl (cL, 24, .inr (.inl nm)))] := hD.sub [0, 6, 7, 1, 2, 3, 4, 5] (by decide) rfl
  refine lv_aload_n hx hb dd_W_writeVerdict_74 rfl (lv_at hl 1 rfl) ?_
  refine va_get (D := (dC, dI)) (ci := 2) (v := .ref h1) (C := cn_W) (T := tt_W) (N := 2) hx hb ht in_W hown hK hP 0 rfl rfl 0 (by decide) (ht _ tw_1_178) (fun _ h9 => h9) rfl dd_W_writeVerdict_75 ?_
  refine lv_iload_n hx hb dd_W_writeVerdict_78 rfl (lv_at hl 0 rfl) ?_
  obtain ⟨o_79, ho_79, hF⟩ := jv_bi hF
  refine jv_cs (va_runS (As := [.int o_5]) (rest := [.ref h1]) ⟨hx, hb, hml, hown, ht⟩ (c_W_directiveOf l dC dI cI cL cC cZ adK adV H_23.size o_5 _ ho_79) (va_cwS 1 ht (gi_S tw_2_70 tw_2_71 tw_1_6 tw_2_72) rfl rfl rfl (by decide +kernel) ⟨Nat.le_of_ble_eq_true rfl, Nat.le_of_ble_eq_true rfl⟩) (jv_ss hK hP hD hS hA hV [] rfl (by decide) rfl) rfl rfl hl.1 rfl (lv_room (Nat.le_of_ble_eq_true rfl)) dd_W_writeVerdict_79 ⟨Nat.le_of_ble_eq_true rfl, Nat.le_of_ble_eq_true rfl⟩) ?_
  obtain ⟨o_82, ho_82, hF⟩ := jv_bi hF
  refine jv_mv (wr := [(h0, .inr (2, [.ref h1, .ref h3])), (h3, .inr (0, [.ref h4, .ref h5, .ref h6, .ref h7, .int ct, .int lo, .int oc])), (h4, .inl (cI, 24, .inl kd)), (h5, .inl (cI, 24, .inl dp)), (h6, .inl (cI, 24, .inl su)), (h7, .inl (cL, 24, .inr (.inl nm)))]) (w1 := [(h1, .inr (1, [.ref h2, .int o_82.1])), (h2, .inl (cC, 3000, .inl o_82.2))]) (va_runV (C := cn_P) (As := [.ref (adK o_79)]) (rest := []) ⟨hx, hb, hml, hown, ht⟩ (c_P_addText l dC dI cI cL cC cZ adK adV h1 h2 H_23.size o_71.1 o_71.2 o_79 _ ho_82) (cwV 1 ht (gi_V tw_1_194 tw_1_195 tw_1_196 tw_1_2 tw_1_197) rfl rfl rfl (by decide +kernel) ⟨Nat.le_of_ble_eq_true rfl, Nat.le_of_ble_eq_true rfl⟩) (jv_sv hK hP hD hS hA hV [1, 2] rfl (by decide) rfl (va_recv hK hP (ci := 1) (q0 := 1) rfl rfl)) rfl rfl hl.1 rfl (lv_room (Nat.le_of_ble_eq_true rfl)) dd_W_writeVerdict_82 ⟨Nat.le_of_ble_eq_true rfl, Nat.le_of_ble_eq_true rfl⟩) hP hD hS hA [1, 2] [0, 3, 4, 5, 6, 7] rfl rfl (by decide) (by decide) (fun H_25 locs_26 hP hD hS => ?_)
  have hP : va_P (dC, dI) vwCl [(h0, .inr (2, [.ref h1, .ref h3])), (h1, .inr (1, [.ref h2, .int o_82.1])), (h2, .inl (cC, 3000, .inl o_82.2)), (h3, .inr (0, [.ref h4, .ref h5, .ref h6, .ref h7, .int ct, .int lo, .int oc])), (h4, .inl (cI, 24, .inl kd)), (h5, .inl (cI, 24, .inl dp)), (h6, .inl (cI, 24, .inl su)), (h7, .inl (cL, 24, .inr (.inl nm)))] H_25 := hP.sub [0, 6, 7, 1, 2, 3, 4, 5] rfl
  have hD : va_D A [(h0, .inr (2, [.ref h1, .ref h3])), (h1, .inr (1, [.ref h2, .int o_82.1])), (h2, .inl (cC, 3000, .inl o_82.2)), (h3, .inr (0, [.ref h4, .ref h5, .ref h6, .ref h7, .int ct, .int lo, .int oc])), (h4, .inl (cI, 24, .inl kd)), (h5, .inl (cI, 24, .inl dp)), (h6, .inl (cI, 24, .inl su)), (h7, .inl (cL, 24, .inr (.inl nm)))] := hD.sub [0, 6, 7, 1, 2, 3, 4, 5] (by decide) rfl
  refine lv_aload_n hx hb dd_W_writeVerdict_85 rfl (lv_at hl 1 rfl) ?_
  refine va_get (D := (dC, dI)) (ci := 2) (v := .ref h1) (C := cn_W) (T := tt_W) (N := 2) hx hb ht in_W hown hK hP 0 rfl rfl 0 (by decide) (ht _ tw_1_178) (fun _ h9 => h9) rfl dd_W_writeVerdict_86 ?_
  refine lv_bipush (v := 10) hx hb dd_W_writeVerdict_89 (by decide) ?_
  obtain ⟨o_91, ho_91, hF⟩ := jv_bi hF
  refine jv_mi (wr := [(h0, .inr (2, [.ref h1, .ref h3])), (h3, .inr (0, [.ref h4, .ref h5, .ref h6, .ref h7, .int ct, .int lo, .int oc])), (h4, .inl (cI, 24, .inl kd)), (h5, .inl (cI, 24, .inl dp)), (h6, .inl (cI, 24, .inl su)), (h7, .inl (cL, 24, .inr (.inl nm)))]) (w1 := [(h1, .inr (1, [.ref h2, .int o_91.2.1])), (h2, .inl (cC, 3000, .inl o_91.2.2))]) (va_runV (C := cn_P) (As := [.int 10]) (rest := []) ⟨hx, hb, hml, hown, ht⟩ (c_P_add l dC dI cI cL cC cZ h1 h2 H_25.size o_82.1 o_82.2 10 _ ho_91) (cwV 1 ht (gi_V tw_2_10 tw_2_7 tw_2_8 tw_1_2 tw_2_9) rfl rfl rfl (by decide +kernel) ⟨Nat.le_of_ble_eq_true rfl, Nat.le_of_ble_eq_true rfl⟩) (jv_pv hK hP hD [1, 2] rfl (by decide) rfl (va_recv hK hP (ci := 1) (q0 := 1) rfl rfl)) rfl rfl hl.1 rfl (lv_room (Nat.le_of_ble_eq_true rfl)) dd_W_writeVerdict_91 ⟨Nat.le_of_ble_eq_true rfl, Nat.le_of_ble_eq_true rfl⟩) hP hD hS hA [1, 2] [0, 3, 4, 5, 6, 7] rfl rfl (by decide) (by decide) (fun H_27 locs_28 hP hD hS => ?_)
  have hP : va_P (dC, dI) vwCl [(h0, .inr (2, [.ref h1, .ref h3])), (h1, .inr (1, [.ref h2, .int o_91.2.1])), (h2, .inl (cC, 3000, .inl o_91.2.2)), (h3, .inr (0, [.ref h4, .ref h5, .ref h6, .ref h7, .int ct, .int lo, .int oc])), (h4, .inl (cI, 24, .inl kd)), (h5, .inl (cI, 24, .inl dp)), (h6, .inl (cI, 24, .inl su)), (h7, .inl (cL, 24, .inr (.inl nm)))] H_27 := hP.sub [0, 6, 7, 1, 2, 3, 4, 5] rfl
  have hD : va_D A [(h0, .inr (2, [.ref h1, .ref h3])), (h1, .inr (1, [.ref h2, .int o_91.2.1])), (h2, .inl (cC, 3000, .inl o_91.2.2)), (h3, .inr (0, [.ref h4, .ref h5, .ref h6, .ref h7, .int ct, .int lo, .int oc])), (h4, .inl (cI, 24, .inl kd)), (h5, .inl (cI, 24, .inl dp)), (h6, .inl (cI, 24, .inl su)), (h7, .inl (cL, 24, .inr (.inl nm)))] := hD.sub [0, 6, 7, 1, 2, 3, 4, 5] (by decide) rfl
  refine lv_pop hx hb dd_W_writeVerdict_94 rfl ?_
  subst hQ
  obtain rfl := Option.some.inj hF
  exact W.vret hx hb hr (fun t ht hW => ⟨⟨(), rfl, trivial, by rw [ht]; exact hP, va_K.moved hW.alike hK, hD⟩, hS.F ht⟩) hS.2.2 dd_W_writeVerdict_95
set_option maxHeartbeats 40000000 in
set_option maxRecDepth 100000 in
theorem c_W_endSuites (l : Launch) (dC : Nat → ClassId) (dI : Nat → Nat → Nat) (cI cL cC cZ : ClassId) (adK adV : Nat → Nat) (h0 h1 h2 h3 h4 h5 h6 h7 : Nat) (sz : Nat) (zp : Int32) (ch : Nat → Int32) (ct : Int32) (lo : Int32) (oc : Int32) (kd : Nat → Int32) (dp : Nat → Int32) (su : Nat → Int32) (nm : Nat → Int64) (x1 : Int32) (x2 : Int32) (out : Int32 × (Nat → Int32)) (hF : fn_W_endSuites ct kd dp su nm zp ch x1 x2 = some out) : Met l yy_W_endSuites ws_W_endSuites { frames := 7, cells := 0, slots := 0, locals := 151 } (mS_ adK adV (dC, dI) (tk_ cI cL cC cZ) [(h0, .inr (2, [.ref h1, .ref h3])), (h1, .inr (1, [.ref h2, .int zp])), (h2, .inl (cC, 3000, .inl ch)), (h3, .inr (0, [.ref h4, .ref h5, .ref h6, .ref h7, .int ct, .int lo, .int oc])), (h4, .inl (cI, 24, .inl kd)), (h5, .inl (cI, 24, .inl dp)), (h6, .inl (cI, 24, .inl su)), (h7, .inl (cL, 24, .inr (.inl nm)))] sz [.ref h0, .int x1, .int x2]) (va_Qv (fun _ : Unit => True) (mB_ (dC, dI) (tk_ cI cL cC cZ) [(h0, .inr (2, [.ref h1, .ref h3])), (h1, .inr (1, [.ref h2, .int out.1])), (h2, .inl (cC, 3000, .inl out.2)), (h3, .inr (0, [.ref h4, .ref h5, .ref h6, .ref h7, .int ct, .int lo, .int oc])), (h4, .inl (cI, 24, .inl kd)), (h5, .inl (cI, 24, .inl dp)), (h6, .inl (cI, 24, .inl su)), (h7, .inl (cL, 24, .inr (.inl nm)))] (va_A [(h0, .inr (2, [.ref h1, .ref h3])), (h1, .inr (1, [.ref h2, .int zp])), (h2, .inl (cC, 3000, .inl ch)), (h3, .inr (0, [.ref h4, .ref h5, .ref h6, .ref h7, .int ct, .int lo, .int oc])), (h4, .inl (cI, 24, .inl kd)), (h5, .inl (cI, 24, .inl dp)), (h6, .inl (cI, 24, .inl su)), (h7, .inl (cL, 24, .inr (.inl nm)))] sz)) (va_A [(h0, .inr (2, [.ref h1, .ref h3])), (h1, .inr (1, [.ref h2, .int zp])), (h2, .inl (cC, 3000, .inl ch)), (h3, .inr (0, [.ref h4, .ref h5, .ref h6, .ref h7, .int ct, .int lo, .int oc])), (h4, .inl (cI, 24, .inl kd)), (h5, .inl (cI, 24, .inl dp)), (h6, .inl (cI, 24, .inl su)), (h7, .inl (cL, 24, .inr (.inl nm)))] sz)) 0 0 (va_A [(h0, .inr (2, [.ref h1, .ref h3])), (h1, .inr (1, [.ref h2, .int zp])), (h2, .inl (cC, 3000, .inl ch)), (h3, .inr (0, [.ref h4, .ref h5, .ref h6, .ref h7, .int ct, .int lo, .int oc])), (h4, .inl (cI, 24, .inl kd)), (h5, .inl (cI, 24, .inl dp)), (h6, .inl (cI, 24, .inl su)), (h7, .inl (cL, 24, .inr (.inl nm)))] sz) := by
  refine Met.ofW (cc := cc_W_endSuites) (maxL := 5) (ret := none) (by decide) rfl ?_
  intro p e s m args below meth c s₁ B hml hv
  obtain ⟨hargs, hsz, hP, hK, hD0, hV⟩ := hv
  have hx := B.exec
  have hb := B.bytes
  have hr := B.returns
  have hts := atoms_spec (ws := ws_W_endSuites) B.pre
  have ht : ∀ w ∈ TB_, w.before args s = true := fun w h => hts w (List.mem_cons_of_mem _ h)
  have hown : s.vm.findClass cn_W = some m.cls := findClass_of_methodNamed B.named
  have hlocks := B.notSynchronized
  subst hsz
  have hD := hD0.self (sz := s.heap.size)
  generalize hAe : va_A [(h0, .inr (2, [.ref h1, .ref h3])), (h1, .inr (1, [.ref h2, .int zp])), (h2, .inl (cC, 3000, .inl ch)), (h3, .inr (0, [.ref h4, .ref h5, .ref h6, .ref h7, .int ct, .int lo, .int oc])), (h4, .inl (cI, 24, .inl kd)), (h5, .inl (cI, 24, .inl dp)), (h6, .inl (cI, 24, .inl su)), (h7, .inl (cL, 24, .inr (.inl nm)))] s.heap.size = A at hD ⊢ hV
  have hA : ∀ q : Nat, s.heap.size ≤ q → A q := fun q h => by rw [← hAe]; exact Or.inr h
  have hS : va_S A s.heap s.heap [] := va_S.rf
  have hP : va_P (dC, dI) vwCl [(h0, .inr (2, [.ref h1, .ref h3])), (h1, .inr (1, [.ref h2, .int zp])), (h2, .inl (cC, 3000, .inl ch)), (h3, .inr (0, [.ref h4, .ref h5, .ref h6, .ref h7, .int ct, .int lo, .int oc])), (h4, .inl (cI, 24, .inl kd)), (h5, .inl (cI, 24, .inl dp)), (h6, .inl (cI, 24, .inl su)), (h7, .inl (cL, 24, .inr (.inl nm)))] s.heap := hP
  have hl := lv_entry [.ref h0, .int x1, .int x2] (n := 5) (Nat.le_of_ble_eq_true rfl)
  have he : entryFrame m args 5 = _ := (congrArg (fun a => entryFrame m a 5) hargs).trans (lg_entry_eq m [.ref h0, .int x1, .int x2] 5)
  rw [he]
  generalize (lg_sl [.ref h0, .int x1, .int x2] ++ List.replicate (5 - (lg_sl [.ref h0, .int x1, .int x2]).length) Slot.unset).toArray = ls at hl ⊢
  have hl : lv_has ls 5 [(0, .ref h0), (1, .int x1), (2, .int x2)] := hl
  generalize hQ : MQ below _ args s _ _ _ = Q
  have lp5 : ∀ (n5 : Nat), ∀ (zp : Int32) (ch : Nat → Int32) (x2 : Int32) (x3 : Int32) (x4 : Int32), fl_W_endSuites_5 ct kd dp su nm  n5 (zp, ch, x2, x3, x4) = some out → ∀ (H : Heap) (locs : List Loc), va_P (dC, dI) vwCl [(h0, .inr (2, [.ref h1, .ref h3])), (h1, .inr (1, [.ref h2, .int zp])), (h2, .inl (cC, 3000, .inl ch)), (h3, .inr (0, [.ref h4, .ref h5, .ref h6, .ref h7, .int ct, .int lo, .int oc])), (h4, .inl (cI, 24, .inl kd)), (h5, .inl (cI, 24, .inl dp)), (h6, .inl (cI, 24, .inl su)), (h7, .inl (cL, 24, .inr (.inl nm)))] H → va_D A [(h0, .inr (2, [.ref h1, .ref h3])), (h1, .inr (1, [.ref h2, .int zp])), (h2, .inl (cC, 3000, .inl ch)), (h3, .inr (0, [.ref h4, .ref h5, .ref h6, .ref h7, .int ct, .int lo, .int oc])), (h4, .inl (cI, 24, .inl kd)), (h5, .inl (cI, 24, .inl dp)), (h6, .inl (cI, 24, .inl su)), (h7, .inl (cL, 24, .inr (.inl nm)))] → va_S A s.heap H locs → ∀ ls : Array Slot, lv_has ls 5 [(0, .ref h0), (2, .int x2), (3, .int x3), (4, .int x4)] → W p l e (headSpec ws_W_endSuites { frames := 7, cells := 0, slots := 0, locals := 151 }).room s m args below meth c H locs 0 0 Q (F0 m 5 ls []) := by
    intro n5
    induction n5 with
    | zero =>
      intro zp ch x2 x3 x4 hF
      exact (jv_no hF).elim
    | succ n5 ih5 =>
      intro zp ch x2 x3 x4 hF H locs hP hD hS ls hl
      have hF : fb_W_endSuites_5 ct kd dp su nm  (fl_W_endSuites_5 ct kd dp su nm  n5) zp ch x2 x3 x4 = some out := hF
      unfold fb_W_endSuites_5 at hF
      refine lv_iload hx hb dd_W_endSuites_5 (lv_at hl 3 rfl) ?_
      refine lv_iconst (v := 3) hx hb dd_W_endSuites_7 (by decide) ?_
      refine lv_icmp_ge (tgt := 41) hx hb dd_W_endSuites_8 (by decide) (fun c_7 => ?_) (fun c_7 => ?_)
      · have hF := jv_t c_7 hF
        subst hQ
        obtain rfl := Option.some.inj hF
        exact W.vret hx hb hr (fun t ht hW => ⟨⟨(), rfl, trivial, by rw [ht]; exact hP, va_K.moved hW.alike hK, hD⟩, hS.F ht⟩) hS.2.2 dd_W_endSuites_41
      · have hF := jv_f c_7 hF
        refine lv_iload_n hx hb dd_W_endSuites_11 rfl (lv_at hl 2 rfl) ?_
        refine lv_iload_n hx hb dd_W_endSuites_12 rfl (lv_at hl 1 rfl) ?_
        refine lv_icmp_eq (tgt := 41) hx hb dd_W_endSuites_13 (by decide) (fun c_8 => ?_) (fun c_8 => ?_)
        · have hF := jv_t c_8 hF
          subst hQ
          obtain rfl := Option.some.inj hF
          exact W.vret hx hb hr (fun t ht hW => ⟨⟨(), rfl, trivial, by rw [ht]; exact hP, va_K.moved hW.alike hK, hD⟩, hS.F ht⟩) hS.2.2 dd_W_endSuites_41
        · have hF := jv_f c_8 hF
          refine lv_aload_n hx hb dd_W_endSuites_16 rfl (lv_at hl 0 rfl) ?_
          refine lv_iload_n hx hb dd_W_endSuites_17 rfl (lv_at hl 2 rfl) ?_
          obtain ⟨o_18, ho_18, hF⟩ := jv_bi hF
          refine jv_mv (wr := []) (w1 := [(h0, .inr (2, [.ref h1, .ref h3])), (h1, .inr (1, [.ref h2, .int o_18.1])), (h2, .inl (cC, 3000, .inl o_18.2)), (h3, .inr (0, [.ref h4, .ref h5, .ref h6, .ref h7, .int ct, .int lo, .int oc])), (h4, .inl (cI, 24, .inl kd)), (h5, .inl (cI, 24, .inl dp)), (h6, .inl (cI, 24, .inl su)), (h7, .inl (cL, 24, .inr (.inl nm)))]) (va_runV (C := cn_W) (As := [.int x3]) (rest := []) ⟨hx, hb, hml, hown, ht⟩ (c_W_writePlan l dC dI cI cL cC cZ adK adV h0 h1 h2 h3 h4 h5 h6 h7 H.size zp ch ct lo oc kd dp su nm x3 _ ho_18) (cwV 1 ht (gi_V tw_2_20 tw_2_22 tw_p_3 tw_1_6 tw_2_23) rfl rfl rfl (by decide +kernel) ⟨Nat.le_of_ble_eq_true rfl, Nat.le_of_ble_eq_true rfl⟩) (jv_sv hK hP hD hS hA hV [0, 1, 2, 3, 4, 5, 6, 7] rfl (by decide) rfl (va_recv hK hP (ci := 2) (q0 := 0) rfl rfl)) rfl rfl hl.1 rfl (lv_room (Nat.le_of_ble_eq_true rfl)) dd_W_endSuites_18 ⟨Nat.le_of_ble_eq_true rfl, Nat.le_of_ble_eq_true rfl⟩) hP hD hS hA [0, 1, 2, 3, 4, 5, 6, 7] [] rfl rfl (by decide) (by decide) (fun H_9 locs_10 hP hD hS => ?_)
          have hP : va_P (dC, dI) vwCl [(h0, .inr (2, [.ref h1, .ref h3])), (h1, .inr (1, [.ref h2, .int o_18.1])), (h2, .inl (cC, 3000, .inl o_18.2)), (h3, .inr (0, [.ref h4, .ref h5, .ref h6, .ref h7, .int ct, .int lo, .int oc])), (h4, .inl (cI, 24, .inl kd)), (h5, .inl (cI, 24, .inl dp)), (h6, .inl (cI, 24, .inl su)), (h7, .inl (cL, 24, .inr (.inl nm)))] H_9 := hP.sub [0, 1, 2, 3, 4, 5, 6, 7] rfl
          have hD : va_D A [(h0, .inr (2, [.ref h1, .ref h3])), (h1, .inr (1, [.ref h2, .int o_18.1])), (h2, .inl (cC, 3000, .inl o_18.2)), (h3, .inr (0, [.ref h4, .ref h5, .ref h6, .ref h7, .int ct, .int lo, .int oc])), (h4, .inl (cI, 24, .inl kd)), (h5, .inl (cI, 24, .inl dp)), (h6, .inl (cI, 24, .inl su)), (h7, .inl (cL, 24, .inr (.inl nm)))] := hD.sub [0, 1, 2, 3, 4, 5, 6, 7] (by decide) rfl
          refine lv_aload_n hx hb dd_W_endSuites_21 rfl (lv_at hl 0 rfl) ?_
          refine lv_iload_n hx hb dd_W_endSuites_22 rfl (lv_at hl 2 rfl) ?_
          obtain ⟨o_23, ho_23, hF⟩ := jv_bi hF
          refine jv_mv (wr := []) (w1 := [(h0, .inr (2, [.ref h1, .ref h3])), (h1, .inr (1, [.ref h2, .int o_23.1])), (h2, .inl (cC, 3000, .inl o_23.2)), (h3, .inr (0, [.ref h4, .ref h5, .ref h6, .ref h7, .int ct, .int lo, .int oc])), (h4, .inl (cI, 24, .inl kd)), (h5, .inl (cI, 24, .inl dp)), (h6, .inl (cI, 24, .inl su)), (h7, .inl (cL, 24, .inr (.inl nm)))]) (va_runV (C := cn_W) (As := [.int x3]) (rest := []) ⟨hx, hb, hml, hown, ht⟩ (c_W_writeVerdict l dC dI cI cL cC cZ adK adV h0 h1 h2 h3 h4 h5 h6 h7 H_9.size o_18.1 o_18.2 ct lo oc kd dp su nm x3 _ ho_23) (cwV 1 ht (gi_V tw_2_47 tw_2_49 tw_p_5 tw_1_6 tw_2_50) rfl rfl rfl (by decide +kernel) ⟨Nat.le_of_ble_eq_true rfl, Nat.le_of_ble_eq_true rfl⟩) (jv_sv hK hP hD hS hA hV [0, 1, 2, 3, 4, 5, 6, 7] rfl (by decide) rfl (va_recv hK hP (ci := 2) (q0 := 0) rfl rfl)) rfl rfl hl.1 rfl (lv_room (Nat.le_of_ble_eq_true rfl)) dd_W_endSuites_23 ⟨Nat.le_of_ble_eq_true rfl, Nat.le_of_ble_eq_true rfl⟩) hP hD hS hA [0, 1, 2, 3, 4, 5, 6, 7] [] rfl rfl (by decide) (by decide) (fun H_11 locs_12 hP hD hS => ?_)
          have hP : va_P (dC, dI) vwCl [(h0, .inr (2, [.ref h1, .ref h3])), (h1, .inr (1, [.ref h2, .int o_23.1])), (h2, .inl (cC, 3000, .inl o_23.2)), (h3, .inr (0, [.ref h4, .ref h5, .ref h6, .ref h7, .int ct, .int lo, .int oc])), (h4, .inl (cI, 24, .inl kd)), (h5, .inl (cI, 24, .inl dp)), (h6, .inl (cI, 24, .inl su)), (h7, .inl (cL, 24, .inr (.inl nm)))] H_11 := hP.sub [0, 1, 2, 3, 4, 5, 6, 7] rfl
          have hD : va_D A [(h0, .inr (2, [.ref h1, .ref h3])), (h1, .inr (1, [.ref h2, .int o_23.1])), (h2, .inl (cC, 3000, .inl o_23.2)), (h3, .inr (0, [.ref h4, .ref h5, .ref h6, .ref h7, .int ct, .int lo, .int oc])), (h4, .inl (cI, 24, .inl kd)), (h5, .inl (cI, 24, .inl dp)), (h6, .inl (cI, 24, .inl su)), (h7, .inl (cL, 24, .inr (.inl nm)))] := hD.sub [0, 1, 2, 3, 4, 5, 6, 7] (by decide) rfl
          refine lv_aload_n hx hb dd_W_endSuites_26 rfl (lv_at hl 0 rfl) ?_
          refine va_get (D := (dC, dI)) (ci := 2) (v := .ref h3) (C := cn_W) (T := tt_W) (N := 2) hx hb ht in_W hown hK hP 0 rfl rfl 1 (by decide) (ht _ tw_1_179) (fun _ h9 => h9) rfl dd_W_endSuites_27 ?_
          refine lv_iload_n hx hb dd_W_endSuites_30 rfl (lv_at hl 2 rfl) ?_
          obtain ⟨o_31, ho_31, hF⟩ := jv_bi hF
          refine jv_ci (va_runV (C := cn_R) (As := [.int x3]) (rest := []) ⟨hx, hb, hml, hown, ht⟩ (c_R_suiteOf l dC dI cI cL cC cZ h3 h4 h5 h6 h7 H_11.size ct lo oc kd dp su nm x3 _ ho_31) (cwV 1 ht (gi_V tw_2_12 tw_2_13 tw_2_14 tw_1_3 tw_2_15) rfl rfl rfl (by decide +kernel) ⟨Nat.le_of_ble_eq_true rfl, Nat.le_of_ble_eq_true rfl⟩) (jv_pv hK hP hD [3, 4, 5, 6, 7] rfl (by decide) rfl (va_recv hK hP (ci := 0) (q0 := 3) rfl rfl)) rfl rfl hl.1 rfl (lv_room (Nat.le_of_ble_eq_true rfl)) dd_W_endSuites_31 ⟨Nat.le_of_ble_eq_true rfl, Nat.le_of_ble_eq_true rfl⟩) ?_
          refine lv_istore_n (lv' := [(3, .int o_31), (0, .ref h0), (2, .int x2), (4, .int x4)]) hx hb dd_W_endSuites_34 rfl hl (by decide) rfl (fun ls hl => ?_)
          refine lv_iinc (v := x4 + 1) (lv' := [(4, .int (x4 + 1)), (3, .int o_31), (0, .ref h0), (2, .int x2)]) hx hb dd_W_endSuites_35 hl (k := 3) rfl rfl (by decide) rfl (fun ls hl => ?_)
          refine lv_goto (tgt := 5) hx hb dd_W_endSuites_38 (by decide) ?_
          exact ih5 o_23.1 o_23.2 x2 o_31 (x4 + 1) hF H_11 locs_12 hP hD hS ls (lv_sub hl [2, 3, 1, 0] rfl)
  unfold fn_W_endSuites at hF
  refine lv_iload_n hx hb dd_W_endSuites_0 rfl (lv_at hl 1 rfl) ?_
  refine lv_istore_n (lv' := [(3, .int x1), (0, .ref h0), (1, .int x1), (2, .int x2)]) hx hb dd_W_endSuites_1 rfl hl (by decide) rfl (fun ls hl => ?_)
  refine lv_iconst (v := 0) hx hb dd_W_endSuites_2 (by decide) ?_
  refine lv_istore (lv' := [(4, .int 0), (3, .int x1), (0, .ref h0), (1, .int x1), (2, .int x2)]) hx hb dd_W_endSuites_3 hl (by decide) rfl (fun ls hl => ?_)
  exact lp5 4000 zp ch x2 x1 0 hF s.heap [] hP hD hS ls (lv_sub hl [2, 4, 1, 0] rfl)
set_option maxHeartbeats 40000000 in
set_option maxRecDepth 100000 in
theorem c_W_writeEnd (l : Launch) (dC : Nat → ClassId) (dI : Nat → Nat → Nat) (cI cL cC cZ : ClassId) (adK adV : Nat → Nat) (h0 h1 h2 h3 h4 h5 h6 h7 : Nat) (sz : Nat) (zp : Int32) (ch : Nat → Int32) (ct : Int32) (lo : Int32) (oc : Int32) (kd : Nat → Int32) (dp : Nat → Int32) (su : Nat → Int32) (nm : Nat → Int64)  (out : Int32 × (Nat → Int32)) (hF : fn_W_writeEnd ct oc dp su zp ch = some out) : Met l yy_W_writeEnd ws_W_writeEnd { frames := 7, cells := 0, slots := 0, locals := 150 } (mS_ adK adV (dC, dI) (tk_ cI cL cC cZ) [(h0, .inr (2, [.ref h1, .ref h3])), (h1, .inr (1, [.ref h2, .int zp])), (h2, .inl (cC, 3000, .inl ch)), (h3, .inr (0, [.ref h4, .ref h5, .ref h6, .ref h7, .int ct, .int lo, .int oc])), (h4, .inl (cI, 24, .inl kd)), (h5, .inl (cI, 24, .inl dp)), (h6, .inl (cI, 24, .inl su)), (h7, .inl (cL, 24, .inr (.inl nm)))] sz [.ref h0]) (va_Qv (fun _ : Unit => True) (mB_ (dC, dI) (tk_ cI cL cC cZ) [(h0, .inr (2, [.ref h1, .ref h3])), (h1, .inr (1, [.ref h2, .int out.1])), (h2, .inl (cC, 3000, .inl out.2)), (h3, .inr (0, [.ref h4, .ref h5, .ref h6, .ref h7, .int ct, .int lo, .int oc])), (h4, .inl (cI, 24, .inl kd)), (h5, .inl (cI, 24, .inl dp)), (h6, .inl (cI, 24, .inl su)), (h7, .inl (cL, 24, .inr (.inl nm)))] (va_A [(h0, .inr (2, [.ref h1, .ref h3])), (h1, .inr (1, [.ref h2, .int zp])), (h2, .inl (cC, 3000, .inl ch)), (h3, .inr (0, [.ref h4, .ref h5, .ref h6, .ref h7, .int ct, .int lo, .int oc])), (h4, .inl (cI, 24, .inl kd)), (h5, .inl (cI, 24, .inl dp)), (h6, .inl (cI, 24, .inl su)), (h7, .inl (cL, 24, .inr (.inl nm)))] sz)) (va_A [(h0, .inr (2, [.ref h1, .ref h3])), (h1, .inr (1, [.ref h2, .int zp])), (h2, .inl (cC, 3000, .inl ch)), (h3, .inr (0, [.ref h4, .ref h5, .ref h6, .ref h7, .int ct, .int lo, .int oc])), (h4, .inl (cI, 24, .inl kd)), (h5, .inl (cI, 24, .inl dp)), (h6, .inl (cI, 24, .inl su)), (h7, .inl (cL, 24, .inr (.inl nm)))] sz)) 0 0 (va_A [(h0, .inr (2, [.ref h1, .ref h3])), (h1, .inr (1, [.ref h2, .int zp])), (h2, .inl (cC, 3000, .inl ch)), (h3, .inr (0, [.ref h4, .ref h5, .ref h6, .ref h7, .int ct, .int lo, .int oc])), (h4, .inl (cI, 24, .inl kd)), (h5, .inl (cI, 24, .inl dp)), (h6, .inl (cI, 24, .inl su)), (h7, .inl (cL, 24, .inr (.inl nm)))] sz) := by
  refine Met.ofW (cc := cc_W_writeEnd) (maxL := 1) (ret := none) (by decide) rfl ?_
  intro p e s m args below meth c s₁ B hml hv
  obtain ⟨hargs, hsz, hP, hK, hD0, hV⟩ := hv
  have hx := B.exec
  have hb := B.bytes
  have hr := B.returns
  have hts := atoms_spec (ws := ws_W_writeEnd) B.pre
  have ht : ∀ w ∈ TB_, w.before args s = true := fun w h => hts w (List.mem_cons_of_mem _ h)
  have hown : s.vm.findClass cn_W = some m.cls := findClass_of_methodNamed B.named
  have hlocks := B.notSynchronized
  subst hsz
  have hD := hD0.self (sz := s.heap.size)
  generalize hAe : va_A [(h0, .inr (2, [.ref h1, .ref h3])), (h1, .inr (1, [.ref h2, .int zp])), (h2, .inl (cC, 3000, .inl ch)), (h3, .inr (0, [.ref h4, .ref h5, .ref h6, .ref h7, .int ct, .int lo, .int oc])), (h4, .inl (cI, 24, .inl kd)), (h5, .inl (cI, 24, .inl dp)), (h6, .inl (cI, 24, .inl su)), (h7, .inl (cL, 24, .inr (.inl nm)))] s.heap.size = A at hD ⊢ hV
  have hA : ∀ q : Nat, s.heap.size ≤ q → A q := fun q h => by rw [← hAe]; exact Or.inr h
  have hS : va_S A s.heap s.heap [] := va_S.rf
  have hP : va_P (dC, dI) vwCl [(h0, .inr (2, [.ref h1, .ref h3])), (h1, .inr (1, [.ref h2, .int zp])), (h2, .inl (cC, 3000, .inl ch)), (h3, .inr (0, [.ref h4, .ref h5, .ref h6, .ref h7, .int ct, .int lo, .int oc])), (h4, .inl (cI, 24, .inl kd)), (h5, .inl (cI, 24, .inl dp)), (h6, .inl (cI, 24, .inl su)), (h7, .inl (cL, 24, .inr (.inl nm)))] s.heap := hP
  have hl := lv_entry [.ref h0] (n := 1) (Nat.le_of_ble_eq_true rfl)
  have he : entryFrame m args 1 = _ := (congrArg (fun a => entryFrame m a 1) hargs).trans (lg_entry_eq m [.ref h0] 1)
  rw [he]
  generalize (lg_sl [.ref h0] ++ List.replicate (1 - (lg_sl [.ref h0]).length) Slot.unset).toArray = ls at hl ⊢
  have hl : lv_has ls 1 [(0, .ref h0)] := hl
  generalize hQ : MQ below _ args s _ _ _ = Q
  unfold fn_W_writeEnd at hF
  refine lv_aload_n hx hb dd_W_writeEnd_0 rfl (lv_at hl 0 rfl) ?_
  refine va_get (D := (dC, dI)) (ci := 2) (v := .ref h3) (C := cn_W) (T := tt_W) (N := 2) hx hb ht in_W hown hK hP 0 rfl rfl 1 (by decide) (ht _ tw_1_179) (fun _ h9 => h9) rfl dd_W_writeEnd_1 ?_
  obtain ⟨o_4, ho_4, hF⟩ := jv_bi hF
  refine jv_ci (va_runV (C := cn_R) (As := []) (rest := []) ⟨hx, hb, hml, hown, ht⟩ (c_R_openSuites l dC dI cI cL cC cZ h3 h4 h5 h6 h7 s.heap.size ct lo oc kd dp su nm _ ho_4) (cwV 0 ht (gi_V tw_2_93 tw_2_94 tw_2_95 tw_1_3 tw_2_96) rfl rfl rfl (by decide +kernel) ⟨Nat.le_of_ble_eq_true rfl, Nat.le_of_ble_eq_true rfl⟩) (jv_pv hK hP hD [3, 4, 5, 6, 7] rfl (by decide) rfl (va_recv hK hP (ci := 0) (q0 := 3) rfl rfl)) rfl rfl hl.1 rfl (lv_room (Nat.le_of_ble_eq_true rfl)) dd_W_writeEnd_4 ⟨Nat.le_of_ble_eq_true rfl, Nat.le_of_ble_eq_true rfl⟩) ?_
  refine lv_if_ne (tgt := 18) hx hb dd_W_writeEnd_7 (by decide) (fun c_8 => ?_) (fun c_8 => ?_)
  · have hF := jv_f c_8 hF
    refine lv_aload_n hx hb dd_W_writeEnd_18 rfl (lv_at hl 0 rfl) ?_
    refine va_get (D := (dC, dI)) (ci := 2) (v := .ref h1) (C := cn_W) (T := tt_W) (N := 2) hx hb ht in_W hown hK hP 0 rfl rfl 0 (by decide) (ht _ tw_1_178) (fun _ h9 => h9) rfl dd_W_writeEnd_19 ?_
    refine va_ldcS hx hb hown (sk_R (k := 12) hV rfl) dd_W_writeEnd_22 ?_
    obtain ⟨o_24, ho_24, hF⟩ := jv_bi hF
    refine jv_mv (wr := [(h0, .inr (2, [.ref h1, .ref h3])), (h3, .inr (0, [.ref h4, .ref h5, .ref h6, .ref h7, .int ct, .int lo, .int oc])), (h4, .inl (cI, 24, .inl kd)), (h5, .inl (cI, 24, .inl dp)), (h6, .inl (cI, 24, .inl su)), (h7, .inl (cL, 24, .inr (.inl nm)))]) (w1 := [(h1, .inr (1, [.ref h2, .int o_24.1])), (h2, .inl (cC, 3000, .inl o_24.2))]) (va_runV (C := cn_P) (As := [.ref (adK 9)]) (rest := []) ⟨hx, hb, hml, hown, ht⟩ (c_P_addText l dC dI cI cL cC cZ adK adV h1 h2 s.heap.size zp ch 9 _ ho_24) (cwV 1 ht (gi_V tw_1_194 tw_1_195 tw_1_196 tw_1_2 tw_1_197) rfl rfl rfl (by decide +kernel) ⟨Nat.le_of_ble_eq_true rfl, Nat.le_of_ble_eq_true rfl⟩) (jv_sv hK hP hD hS hA hV [1, 2] rfl (by decide) rfl (va_recv hK hP (ci := 1) (q0 := 1) rfl rfl)) rfl rfl hl.1 rfl (lv_room (Nat.le_of_ble_eq_true rfl)) dd_W_writeEnd_24 ⟨Nat.le_of_ble_eq_true rfl, Nat.le_of_ble_eq_true rfl⟩) hP hD hS hA [1, 2] [0, 3, 4, 5, 6, 7] rfl rfl (by decide) (by decide) (fun H_9 locs_10 hP hD hS => ?_)
    have hP : va_P (dC, dI) vwCl [(h0, .inr (2, [.ref h1, .ref h3])), (h1, .inr (1, [.ref h2, .int o_24.1])), (h2, .inl (cC, 3000, .inl o_24.2)), (h3, .inr (0, [.ref h4, .ref h5, .ref h6, .ref h7, .int ct, .int lo, .int oc])), (h4, .inl (cI, 24, .inl kd)), (h5, .inl (cI, 24, .inl dp)), (h6, .inl (cI, 24, .inl su)), (h7, .inl (cL, 24, .inr (.inl nm)))] H_9 := hP.sub [0, 6, 7, 1, 2, 3, 4, 5] rfl
    have hD : va_D A [(h0, .inr (2, [.ref h1, .ref h3])), (h1, .inr (1, [.ref h2, .int o_24.1])), (h2, .inl (cC, 3000, .inl o_24.2)), (h3, .inr (0, [.ref h4, .ref h5, .ref h6, .ref h7, .int ct, .int lo, .int oc])), (h4, .inl (cI, 24, .inl kd)), (h5, .inl (cI, 24, .inl dp)), (h6, .inl (cI, 24, .inl su)), (h7, .inl (cL, 24, .inr (.inl nm)))] := hD.sub [0, 6, 7, 1, 2, 3, 4, 5] (by decide) rfl
    refine lv_aload_n hx hb dd_W_writeEnd_27 rfl (lv_at hl 0 rfl) ?_
    refine va_get (D := (dC, dI)) (ci := 2) (v := .ref h1) (C := cn_W) (T := tt_W) (N := 2) hx hb ht in_W hown hK hP 0 rfl rfl 0 (by decide) (ht _ tw_1_178) (fun _ h9 => h9) rfl dd_W_writeEnd_28 ?_
    refine lv_bipush (v := 10) hx hb dd_W_writeEnd_31 (by decide) ?_
    obtain ⟨o_33, ho_33, hF⟩ := jv_bi hF
    refine jv_mi (wr := [(h0, .inr (2, [.ref h1, .ref h3])), (h3, .inr (0, [.ref h4, .ref h5, .ref h6, .ref h7, .int ct, .int lo, .int oc])), (h4, .inl (cI, 24, .inl kd)), (h5, .inl (cI, 24, .inl dp)), (h6, .inl (cI, 24, .inl su)), (h7, .inl (cL, 24, .inr (.inl nm)))]) (w1 := [(h1, .inr (1, [.ref h2, .int o_33.2.1])), (h2, .inl (cC, 3000, .inl o_33.2.2))]) (va_runV (C := cn_P) (As := [.int 10]) (rest := []) ⟨hx, hb, hml, hown, ht⟩ (c_P_add l dC dI cI cL cC cZ h1 h2 H_9.size o_24.1 o_24.2 10 _ ho_33) (cwV 1 ht (gi_V tw_2_10 tw_2_7 tw_2_8 tw_1_2 tw_2_9) rfl rfl rfl (by decide +kernel) ⟨Nat.le_of_ble_eq_true rfl, Nat.le_of_ble_eq_true rfl⟩) (jv_pv hK hP hD [1, 2] rfl (by decide) rfl (va_recv hK hP (ci := 1) (q0 := 1) rfl rfl)) rfl rfl hl.1 rfl (lv_room (Nat.le_of_ble_eq_true rfl)) dd_W_writeEnd_33 ⟨Nat.le_of_ble_eq_true rfl, Nat.le_of_ble_eq_true rfl⟩) hP hD hS hA [1, 2] [0, 3, 4, 5, 6, 7] rfl rfl (by decide) (by decide) (fun H_11 locs_12 hP hD hS => ?_)
    have hP : va_P (dC, dI) vwCl [(h0, .inr (2, [.ref h1, .ref h3])), (h1, .inr (1, [.ref h2, .int o_33.2.1])), (h2, .inl (cC, 3000, .inl o_33.2.2)), (h3, .inr (0, [.ref h4, .ref h5, .ref h6, .ref h7, .int ct, .int lo, .int oc])), (h4, .inl (cI, 24, .inl kd)), (h5, .inl (cI, 24, .inl dp)), (h6, .inl (cI, 24, .inl su)), (h7, .inl (cL, 24, .inr (.inl nm)))] H_11 := hP.sub [0, 6, 7, 1, 2, 3, 4, 5] rfl
    have hD : va_D A [(h0, .inr (2, [.ref h1, .ref h3])), (h1, .inr (1, [.ref h2, .int o_33.2.1])), (h2, .inl (cC, 3000, .inl o_33.2.2)), (h3, .inr (0, [.ref h4, .ref h5, .ref h6, .ref h7, .int ct, .int lo, .int oc])), (h4, .inl (cI, 24, .inl kd)), (h5, .inl (cI, 24, .inl dp)), (h6, .inl (cI, 24, .inl su)), (h7, .inl (cL, 24, .inr (.inl nm)))] := hD.sub [0, 6, 7, 1, 2, 3, 4, 5] (by decide) rfl
    refine lv_pop hx hb dd_W_writeEnd_36 rfl ?_
    subst hQ
    obtain rfl := Option.some.inj hF
    exact W.vret hx hb hr (fun t ht hW => ⟨⟨(), rfl, trivial, by rw [ht]; exact hP, va_K.moved hW.alike hK, hD⟩, hS.F ht⟩) hS.2.2 dd_W_writeEnd_37
  · have hF := jv_t c_8 hF
    refine lv_aload_n hx hb dd_W_writeEnd_10 rfl (lv_at hl 0 rfl) ?_
    refine lv_iconst (v := (-1)) hx hb dd_W_writeEnd_11 (by decide) ?_
    obtain ⟨o_12, ho_12, hF⟩ := jv_bi hF
    refine jv_mv (wr := []) (w1 := [(h0, .inr (2, [.ref h1, .ref h3])), (h1, .inr (1, [.ref h2, .int o_12.1])), (h2, .inl (cC, 3000, .inl o_12.2)), (h3, .inr (0, [.ref h4, .ref h5, .ref h6, .ref h7, .int ct, .int lo, .int oc])), (h4, .inl (cI, 24, .inl kd)), (h5, .inl (cI, 24, .inl dp)), (h6, .inl (cI, 24, .inl su)), (h7, .inl (cL, 24, .inr (.inl nm)))]) (va_runV (C := cn_W) (As := [.int (-1)]) (rest := []) ⟨hx, hb, hml, hown, ht⟩ (c_W_writePlan l dC dI cI cL cC cZ adK adV h0 h1 h2 h3 h4 h5 h6 h7 s.heap.size zp ch ct lo oc kd dp su nm (-1) _ ho_12) (cwV 1 ht (gi_V tw_2_20 tw_2_22 tw_p_3 tw_1_6 tw_2_23) rfl rfl rfl (by decide +kernel) ⟨Nat.le_of_ble_eq_true rfl, Nat.le_of_ble_eq_true rfl⟩) (jv_sv hK hP hD hS hA hV [0, 1, 2, 3, 4, 5, 6, 7] rfl (by decide) rfl (va_recv hK hP (ci := 2) (q0 := 0) rfl rfl)) rfl rfl hl.1 rfl (lv_room (Nat.le_of_ble_eq_true rfl)) dd_W_writeEnd_12 ⟨Nat.le_of_ble_eq_true rfl, Nat.le_of_ble_eq_true rfl⟩) hP hD hS hA [0, 1, 2, 3, 4, 5, 6, 7] [] rfl rfl (by decide) (by decide) (fun H_13 locs_14 hP hD hS => ?_)
    have hP : va_P (dC, dI) vwCl [(h0, .inr (2, [.ref h1, .ref h3])), (h1, .inr (1, [.ref h2, .int o_12.1])), (h2, .inl (cC, 3000, .inl o_12.2)), (h3, .inr (0, [.ref h4, .ref h5, .ref h6, .ref h7, .int ct, .int lo, .int oc])), (h4, .inl (cI, 24, .inl kd)), (h5, .inl (cI, 24, .inl dp)), (h6, .inl (cI, 24, .inl su)), (h7, .inl (cL, 24, .inr (.inl nm)))] H_13 := hP.sub [0, 1, 2, 3, 4, 5, 6, 7] rfl
    have hD : va_D A [(h0, .inr (2, [.ref h1, .ref h3])), (h1, .inr (1, [.ref h2, .int o_12.1])), (h2, .inl (cC, 3000, .inl o_12.2)), (h3, .inr (0, [.ref h4, .ref h5, .ref h6, .ref h7, .int ct, .int lo, .int oc])), (h4, .inl (cI, 24, .inl kd)), (h5, .inl (cI, 24, .inl dp)), (h6, .inl (cI, 24, .inl su)), (h7, .inl (cL, 24, .inr (.inl nm)))] := hD.sub [0, 1, 2, 3, 4, 5, 6, 7] (by decide) rfl
    refine lv_goto (tgt := 37) hx hb dd_W_writeEnd_15 (by decide) ?_
    subst hQ
    obtain rfl := Option.some.inj hF
    exact W.vret hx hb hr (fun t ht hW => ⟨⟨(), rfl, trivial, by rw [ht]; exact hP, va_K.moved hW.alike hK, hD⟩, hS.F ht⟩) hS.2.2 dd_W_writeEnd_37
set_option maxHeartbeats 40000000 in
set_option maxRecDepth 100000 in
theorem c_W_writeAll (l : Launch) (dC : Nat → ClassId) (dI : Nat → Nat → Nat) (cI cL cC cZ : ClassId) (adK adV : Nat → Nat) (h0 h1 h2 h3 h4 h5 h6 h7 : Nat) (sz : Nat) (zp : Int32) (ch : Nat → Int32) (ct : Int32) (lo : Int32) (oc : Int32) (kd : Nat → Int32) (dp : Nat → Int32) (su : Nat → Int32) (nm : Nat → Int64)  (out : Int32 × (Nat → Int32)) (hF : fn_W_writeAll ct lo oc kd dp su nm zp ch = some out) : Met l yy_W_writeAll ws_W_writeAll { frames := 8, cells := 0, slots := 0, locals := 175 } (mS_ adK adV (dC, dI) (tk_ cI cL cC cZ) [(h0, .inr (2, [.ref h1, .ref h3])), (h1, .inr (1, [.ref h2, .int zp])), (h2, .inl (cC, 3000, .inl ch)), (h3, .inr (0, [.ref h4, .ref h5, .ref h6, .ref h7, .int ct, .int lo, .int oc])), (h4, .inl (cI, 24, .inl kd)), (h5, .inl (cI, 24, .inl dp)), (h6, .inl (cI, 24, .inl su)), (h7, .inl (cL, 24, .inr (.inl nm)))] sz [.ref h0]) (va_Qv (fun _ : Unit => True) (mB_ (dC, dI) (tk_ cI cL cC cZ) [(h0, .inr (2, [.ref h1, .ref h3])), (h1, .inr (1, [.ref h2, .int out.1])), (h2, .inl (cC, 3000, .inl out.2)), (h3, .inr (0, [.ref h4, .ref h5, .ref h6, .ref h7, .int ct, .int lo, .int oc])), (h4, .inl (cI, 24, .inl kd)), (h5, .inl (cI, 24, .inl dp)), (h6, .inl (cI, 24, .inl su)), (h7, .inl (cL, 24, .inr (.inl nm)))] (va_A [(h0, .inr (2, [.ref h1, .ref h3])), (h1, .inr (1, [.ref h2, .int zp])), (h2, .inl (cC, 3000, .inl ch)), (h3, .inr (0, [.ref h4, .ref h5, .ref h6, .ref h7, .int ct, .int lo, .int oc])), (h4, .inl (cI, 24, .inl kd)), (h5, .inl (cI, 24, .inl dp)), (h6, .inl (cI, 24, .inl su)), (h7, .inl (cL, 24, .inr (.inl nm)))] sz)) (va_A [(h0, .inr (2, [.ref h1, .ref h3])), (h1, .inr (1, [.ref h2, .int zp])), (h2, .inl (cC, 3000, .inl ch)), (h3, .inr (0, [.ref h4, .ref h5, .ref h6, .ref h7, .int ct, .int lo, .int oc])), (h4, .inl (cI, 24, .inl kd)), (h5, .inl (cI, 24, .inl dp)), (h6, .inl (cI, 24, .inl su)), (h7, .inl (cL, 24, .inr (.inl nm)))] sz)) 0 0 (va_A [(h0, .inr (2, [.ref h1, .ref h3])), (h1, .inr (1, [.ref h2, .int zp])), (h2, .inl (cC, 3000, .inl ch)), (h3, .inr (0, [.ref h4, .ref h5, .ref h6, .ref h7, .int ct, .int lo, .int oc])), (h4, .inl (cI, 24, .inl kd)), (h5, .inl (cI, 24, .inl dp)), (h6, .inl (cI, 24, .inl su)), (h7, .inl (cL, 24, .inr (.inl nm)))] sz) := by
  refine Met.ofW (cc := cc_W_writeAll) (maxL := 3) (ret := none) (by decide) rfl ?_
  intro p e s m args below meth c s₁ B hml hv
  obtain ⟨hargs, hsz, hP, hK, hD0, hV⟩ := hv
  have hx := B.exec
  have hb := B.bytes
  have hr := B.returns
  have hts := atoms_spec (ws := ws_W_writeAll) B.pre
  have ht : ∀ w ∈ TB_, w.before args s = true := fun w h => hts w (List.mem_cons_of_mem _ h)
  have hown : s.vm.findClass cn_W = some m.cls := findClass_of_methodNamed B.named
  have hlocks := B.notSynchronized
  subst hsz
  have hD := hD0.self (sz := s.heap.size)
  generalize hAe : va_A [(h0, .inr (2, [.ref h1, .ref h3])), (h1, .inr (1, [.ref h2, .int zp])), (h2, .inl (cC, 3000, .inl ch)), (h3, .inr (0, [.ref h4, .ref h5, .ref h6, .ref h7, .int ct, .int lo, .int oc])), (h4, .inl (cI, 24, .inl kd)), (h5, .inl (cI, 24, .inl dp)), (h6, .inl (cI, 24, .inl su)), (h7, .inl (cL, 24, .inr (.inl nm)))] s.heap.size = A at hD ⊢ hV
  have hA : ∀ q : Nat, s.heap.size ≤ q → A q := fun q h => by rw [← hAe]; exact Or.inr h
  have hS : va_S A s.heap s.heap [] := va_S.rf
  have hP : va_P (dC, dI) vwCl [(h0, .inr (2, [.ref h1, .ref h3])), (h1, .inr (1, [.ref h2, .int zp])), (h2, .inl (cC, 3000, .inl ch)), (h3, .inr (0, [.ref h4, .ref h5, .ref h6, .ref h7, .int ct, .int lo, .int oc])), (h4, .inl (cI, 24, .inl kd)), (h5, .inl (cI, 24, .inl dp)), (h6, .inl (cI, 24, .inl su)), (h7, .inl (cL, 24, .inr (.inl nm)))] s.heap := hP
  have hl := lv_entry [.ref h0] (n := 3) (Nat.le_of_ble_eq_true rfl)
  have he : entryFrame m args 3 = _ := (congrArg (fun a => entryFrame m a 3) hargs).trans (lg_entry_eq m [.ref h0] 3)
  rw [he]
  generalize (lg_sl [.ref h0] ++ List.replicate (3 - (lg_sl [.ref h0]).length) Slot.unset).toArray = ls at hl ⊢
  have hl : lv_has ls 3 [(0, .ref h0)] := hl
  generalize hQ : MQ below _ args s _ _ _ = Q
  have lp32 : ∀ (n32 : Nat), ∀ (zp : Int32) (ch : Nat → Int32) (x1 : Int32) (x2 : Int32), fl_W_writeAll_32 ct lo oc kd dp su nm  n32 (zp, ch, x1, x2) = some out → ∀ (H : Heap) (locs : List Loc), va_P (dC, dI) vwCl [(h0, .inr (2, [.ref h1, .ref h3])), (h1, .inr (1, [.ref h2, .int zp])), (h2, .inl (cC, 3000, .inl ch)), (h3, .inr (0, [.ref h4, .ref h5, .ref h6, .ref h7, .int ct, .int lo, .int oc])), (h4, .inl (cI, 24, .inl kd)), (h5, .inl (cI, 24, .inl dp)), (h6, .inl (cI, 24, .inl su)), (h7, .inl (cL, 24, .inr (.inl nm)))] H → va_D A [(h0, .inr (2, [.ref h1, .ref h3])), (h1, .inr (1, [.ref h2, .int zp])), (h2, .inl (cC, 3000, .inl ch)), (h3, .inr (0, [.ref h4, .ref h5, .ref h6, .ref h7, .int ct, .int lo, .int oc])), (h4, .inl (cI, 24, .inl kd)), (h5, .inl (cI, 24, .inl dp)), (h6, .inl (cI, 24, .inl su)), (h7, .inl (cL, 24, .inr (.inl nm)))] → va_S A s.heap H locs → ∀ ls : Array Slot, lv_has ls 3 [(0, .ref h0), (1, .int x1), (2, .int x2)] → W p l e (headSpec ws_W_writeAll { frames := 8, cells := 0, slots := 0, locals := 175 }).room s m args below meth c H locs 0 0 Q (F0 m 32 ls []) := by
    intro n32
    induction n32 with
    | zero =>
      intro zp ch x1 x2 hF
      exact (jv_no hF).elim
    | succ n32 ih32 =>
      intro zp ch x1 x2 hF H locs hP hD hS ls hl
      have hF : fb_W_writeAll_32 ct lo oc kd dp su nm  (fl_W_writeAll_32 ct lo oc kd dp su nm  n32) zp ch x1 x2 = some out := hF
      unfold fb_W_writeAll_32 at hF
      refine lv_iload_n hx hb dd_W_writeAll_32 rfl (lv_at hl 2 rfl) ?_
      refine lv_aload_n hx hb dd_W_writeAll_33 rfl (lv_at hl 0 rfl) ?_
      refine va_get (D := (dC, dI)) (ci := 2) (v := .ref h3) (C := cn_W) (T := tt_W) (N := 2) hx hb ht in_W hown hK hP 0 rfl rfl 1 (by decide) (ht _ tw_1_179) (fun _ h9 => h9) rfl dd_W_writeAll_34 ?_
      obtain ⟨o_37, ho_37, hF⟩ := jv_bi hF
      refine jv_ci (va_runV (C := cn_R) (As := []) (rest := [.int x2]) ⟨hx, hb, hml, hown, ht⟩ (c_R_size l dC dI cI cL cC cZ h3 h4 h5 h6 h7 H.size ct lo oc kd dp su nm _ ho_37) (cwV 0 ht (gi_V tw_2_11 tw_1_139 tw_1_140 tw_1_3 tw_1_141) rfl rfl rfl (by decide +kernel) ⟨Nat.le_of_ble_eq_true rfl, Nat.le_of_ble_eq_true rfl⟩) (jv_pv hK hP hD [3, 4, 5, 6, 7] rfl (by decide) rfl (va_recv hK hP (ci := 0) (q0 := 3) rfl rfl)) rfl rfl hl.1 rfl (lv_room (Nat.le_of_ble_eq_true rfl)) dd_W_writeAll_37 ⟨Nat.le_of_ble_eq_true rfl, Nat.le_of_ble_eq_true rfl⟩) ?_
      refine lv_icmp_ge (tgt := 97) hx hb dd_W_writeAll_40 (by decide) (fun c_19 => ?_) (fun c_19 => ?_)
      · have hF := jv_t c_19 hF
        refine lv_aload_n hx hb dd_W_writeAll_97 rfl (lv_at hl 0 rfl) ?_
        refine lv_iload_n hx hb dd_W_writeAll_98 rfl (lv_at hl 1 rfl) ?_
        refine lv_aload_n hx hb dd_W_writeAll_99 rfl (lv_at hl 0 rfl) ?_
        refine va_get (D := (dC, dI)) (ci := 2) (v := .ref h3) (C := cn_W) (T := tt_W) (N := 2) hx hb ht in_W hown hK hP 0 rfl rfl 1 (by decide) (ht _ tw_1_179) (fun _ h9 => h9) rfl dd_W_writeAll_100 ?_
        obtain ⟨o_103, ho_103, hF⟩ := jv_bi hF
        refine jv_ci (va_runV (C := cn_R) (As := []) (rest := [.int x1, .ref h0]) ⟨hx, hb, hml, hown, ht⟩ (c_R_innermost l dC dI cI cL cC cZ h3 h4 h5 h6 h7 H.size ct lo oc kd dp su nm _ ho_103) (cwV 0 ht (gi_V tw_2_85 tw_2_86 tw_2_87 tw_1_3 tw_2_88) rfl rfl rfl (by decide +kernel) ⟨Nat.le_of_ble_eq_true rfl, Nat.le_of_ble_eq_true rfl⟩) (jv_pv hK hP hD [3, 4, 5, 6, 7] rfl (by decide) rfl (va_recv hK hP (ci := 0) (q0 := 3) rfl rfl)) rfl rfl hl.1 rfl (lv_room (Nat.le_of_ble_eq_true rfl)) dd_W_writeAll_103 ⟨Nat.le_of_ble_eq_true rfl, Nat.le_of_ble_eq_true rfl⟩) ?_
        obtain ⟨o_106, ho_106, hF⟩ := jv_bi hF
        refine jv_mv (wr := []) (w1 := [(h0, .inr (2, [.ref h1, .ref h3])), (h1, .inr (1, [.ref h2, .int o_106.1])), (h2, .inl (cC, 3000, .inl o_106.2)), (h3, .inr (0, [.ref h4, .ref h5, .ref h6, .ref h7, .int ct, .int lo, .int oc])), (h4, .inl (cI, 24, .inl kd)), (h5, .inl (cI, 24, .inl dp)), (h6, .inl (cI, 24, .inl su)), (h7, .inl (cL, 24, .inr (.inl nm)))]) (va_runV (C := cn_W) (As := [.int x1, .int o_103]) (rest := []) ⟨hx, hb, hml, hown, ht⟩ (c_W_endSuites l dC dI cI cL cC cZ adK adV h0 h1 h2 h3 h4 h5 h6 h7 H.size zp ch ct lo oc kd dp su nm x1 o_103 _ ho_106) (cwV 2 ht (gi_V tw_2_16 tw_2_18 tw_p_2 tw_1_6 tw_2_19) rfl rfl rfl (by decide +kernel) ⟨Nat.le_of_ble_eq_true rfl, Nat.le_of_ble_eq_true rfl⟩) (jv_sv hK hP hD hS hA hV [0, 1, 2, 3, 4, 5, 6, 7] rfl (by decide) rfl (va_recv hK hP (ci := 2) (q0 := 0) rfl rfl)) rfl rfl hl.1 rfl (lv_room (Nat.le_of_ble_eq_true rfl)) dd_W_writeAll_106 ⟨Nat.le_of_ble_eq_true rfl, Nat.le_of_ble_eq_true rfl⟩) hP hD hS hA [0, 1, 2, 3, 4, 5, 6, 7] [] rfl rfl (by decide) (by decide) (fun H_20 locs_21 hP hD hS => ?_)
        have hP : va_P (dC, dI) vwCl [(h0, .inr (2, [.ref h1, .ref h3])), (h1, .inr (1, [.ref h2, .int o_106.1])), (h2, .inl (cC, 3000, .inl o_106.2)), (h3, .inr (0, [.ref h4, .ref h5, .ref h6, .ref h7, .int ct, .int lo, .int oc])), (h4, .inl (cI, 24, .inl kd)), (h5, .inl (cI, 24, .inl dp)), (h6, .inl (cI, 24, .inl su)), (h7, .inl (cL, 24, .inr (.inl nm)))] H_20 := hP.sub [0, 1, 2, 3, 4, 5, 6, 7] rfl
        have hD : va_D A [(h0, .inr (2, [.ref h1, .ref h3])), (h1, .inr (1, [.ref h2, .int o_106.1])), (h2, .inl (cC, 3000, .inl o_106.2)), (h3, .inr (0, [.ref h4, .ref h5, .ref h6, .ref h7, .int ct, .int lo, .int oc])), (h4, .inl (cI, 24, .inl kd)), (h5, .inl (cI, 24, .inl dp)), (h6, .inl (cI, 24, .inl su)), (h7, .inl (cL, 24, .inr (.inl nm)))] := hD.sub [0, 1, 2, 3, 4, 5, 6, 7] (by decide) rfl
        refine lv_aload_n hx hb dd_W_writeAll_109 rfl (lv_at hl 0 rfl) ?_
        obtain ⟨o_110, ho_110, hF⟩ := jv_bi hF
        refine jv_mv (wr := []) (w1 := [(h0, .inr (2, [.ref h1, .ref h3])), (h1, .inr (1, [.ref h2, .int o_110.1])), (h2, .inl (cC, 3000, .inl o_110.2)), (h3, .inr (0, [.ref h4, .ref h5, .ref h6, .ref h7, .int ct, .int lo, .int oc])), (h4, .inl (cI, 24, .inl kd)), (h5, .inl (cI, 24, .inl dp)), (h6, .inl (cI, 24, .inl su)), (h7, .inl (cL, 24, .inr (.inl nm)))]) (va_runV (C := cn_W) (As := []) (rest := []) ⟨hx, hb, hml, hown, ht⟩ (c_W_writeEnd l dC dI cI cL cC cZ adK adV h0 h1 h2 h3 h4 h5 h6 h7 H_20.size o_106.1 o_106.2 ct lo oc kd dp su nm _ ho_110) (cwV 0 ht (gi_V tw_2_89 tw_2_91 tw_p_7 tw_1_6 tw_2_92) rfl rfl rfl (by decide +kernel) ⟨Nat.le_of_ble_eq_true rfl, Nat.le_of_ble_eq_true rfl⟩) (jv_sv hK hP hD hS hA hV [0, 1, 2, 3, 4, 5, 6, 7] rfl (by decide) rfl (va_recv hK hP (ci := 2) (q0 := 0) rfl rfl)) rfl rfl hl.1 rfl (lv_room (Nat.le_of_ble_eq_true rfl)) dd_W_writeAll_110 ⟨Nat.le_of_ble_eq_true rfl, Nat.le_of_ble_eq_true rfl⟩) hP hD hS hA [0, 1, 2, 3, 4, 5, 6, 7] [] rfl rfl (by decide) (by decide) (fun H_22 locs_23 hP hD hS => ?_)
        have hP : va_P (dC, dI) vwCl [(h0, .inr (2, [.ref h1, .ref h3])), (h1, .inr (1, [.ref h2, .int o_110.1])), (h2, .inl (cC, 3000, .inl o_110.2)), (h3, .inr (0, [.ref h4, .ref h5, .ref h6, .ref h7, .int ct, .int lo, .int oc])), (h4, .inl (cI, 24, .inl kd)), (h5, .inl (cI, 24, .inl dp)), (h6, .inl (cI, 24, .inl su)), (h7, .inl (cL, 24, .inr (.inl nm)))] H_22 := hP.sub [0, 1, 2, 3, 4, 5, 6, 7] rfl
        have hD : va_D A [(h0, .inr (2, [.ref h1, .ref h3])), (h1, .inr (1, [.ref h2, .int o_110.1])), (h2, .inl (cC, 3000, .inl o_110.2)), (h3, .inr (0, [.ref h4, .ref h5, .ref h6, .ref h7, .int ct, .int lo, .int oc])), (h4, .inl (cI, 24, .inl kd)), (h5, .inl (cI, 24, .inl dp)), (h6, .inl (cI, 24, .inl su)), (h7, .inl (cL, 24, .inr (.inl nm)))] := hD.sub [0, 1, 2, 3, 4, 5, 6, 7] (by decide) rfl
        subst hQ
        obtain rfl := Option.some.inj hF
        exact W.vret hx hb hr (fun t ht hW => ⟨⟨(), rfl, trivial, by rw [ht]; exact hP, va_K.moved hW.alike hK, hD⟩, hS.F ht⟩) hS.2.2 dd_W_writeAll_113
      · have hF := jv_f c_19 hF
        refine lv_aload_n hx hb dd_W_writeAll_43 rfl (lv_at hl 0 rfl) ?_
        refine lv_iload_n hx hb dd_W_writeAll_44 rfl (lv_at hl 1 rfl) ?_
        refine lv_aload_n hx hb dd_W_writeAll_45 rfl (lv_at hl 0 rfl) ?_
        refine va_get (D := (dC, dI)) (ci := 2) (v := .ref h3) (C := cn_W) (T := tt_W) (N := 2) hx hb ht in_W hown hK hP 0 rfl rfl 1 (by decide) (ht _ tw_1_179) (fun _ h9 => h9) rfl dd_W_writeAll_46 ?_
        refine lv_iload_n hx hb dd_W_writeAll_49 rfl (lv_at hl 2 rfl) ?_
        obtain ⟨o_50, ho_50, hF⟩ := jv_bi hF
        refine jv_ci (va_runV (C := cn_R) (As := [.int x2]) (rest := [.int x1, .ref h0]) ⟨hx, hb, hml, hown, ht⟩ (c_R_suiteOf l dC dI cI cL cC cZ h3 h4 h5 h6 h7 H.size ct lo oc kd dp su nm x2 _ ho_50) (cwV 1 ht (gi_V tw_2_12 tw_2_13 tw_2_14 tw_1_3 tw_2_15) rfl rfl rfl (by decide +kernel) ⟨Nat.le_of_ble_eq_true rfl, Nat.le_of_ble_eq_true rfl⟩) (jv_pv hK hP hD [3, 4, 5, 6, 7] rfl (by decide) rfl (va_recv hK hP (ci := 0) (q0 := 3) rfl rfl)) rfl rfl hl.1 rfl (lv_room (Nat.le_of_ble_eq_true rfl)) dd_W_writeAll_50 ⟨Nat.le_of_ble_eq_true rfl, Nat.le_of_ble_eq_true rfl⟩) ?_
        obtain ⟨o_53, ho_53, hF⟩ := jv_bi hF
        refine jv_mv (wr := []) (w1 := [(h0, .inr (2, [.ref h1, .ref h3])), (h1, .inr (1, [.ref h2, .int o_53.1])), (h2, .inl (cC, 3000, .inl o_53.2)), (h3, .inr (0, [.ref h4, .ref h5, .ref h6, .ref h7, .int ct, .int lo, .int oc])), (h4, .inl (cI, 24, .inl kd)), (h5, .inl (cI, 24, .inl dp)), (h6, .inl (cI, 24, .inl su)), (h7, .inl (cL, 24, .inr (.inl nm)))]) (va_runV (C := cn_W) (As := [.int x1, .int o_50]) (rest := []) ⟨hx, hb, hml, hown, ht⟩ (c_W_endSuites l dC dI cI cL cC cZ adK adV h0 h1 h2 h3 h4 h5 h6 h7 H.size zp ch ct lo oc kd dp su nm x1 o_50 _ ho_53) (cwV 2 ht (gi_V tw_2_16 tw_2_18 tw_p_2 tw_1_6 tw_2_19) rfl rfl rfl (by decide +kernel) ⟨Nat.le_of_ble_eq_true rfl, Nat.le_of_ble_eq_true rfl⟩) (jv_sv hK hP hD hS hA hV [0, 1, 2, 3, 4, 5, 6, 7] rfl (by decide) rfl (va_recv hK hP (ci := 2) (q0 := 0) rfl rfl)) rfl rfl hl.1 rfl (lv_room (Nat.le_of_ble_eq_true rfl)) dd_W_writeAll_53 ⟨Nat.le_of_ble_eq_true rfl, Nat.le_of_ble_eq_true rfl⟩) hP hD hS hA [0, 1, 2, 3, 4, 5, 6, 7] [] rfl rfl (by decide) (by decide) (fun H_24 locs_25 hP hD hS => ?_)
        have hP : va_P (dC, dI) vwCl [(h0, .inr (2, [.ref h1, .ref h3])), (h1, .inr (1, [.ref h2, .int o_53.1])), (h2, .inl (cC, 3000, .inl o_53.2)), (h3, .inr (0, [.ref h4, .ref h5, .ref h6, .ref h7, .int ct, .int lo, .int oc])), (h4, .inl (cI, 24, .inl kd)), (h5, .inl (cI, 24, .inl dp)), (h6, .inl (cI, 24, .inl su)), (h7, .inl (cL, 24, .inr (.inl nm)))] H_24 := hP.sub [0, 1, 2, 3, 4, 5, 6, 7] rfl
        have hD : va_D A [(h0, .inr (2, [.ref h1, .ref h3])), (h1, .inr (1, [.ref h2, .int o_53.1])), (h2, .inl (cC, 3000, .inl o_53.2)), (h3, .inr (0, [.ref h4, .ref h5, .ref h6, .ref h7, .int ct, .int lo, .int oc])), (h4, .inl (cI, 24, .inl kd)), (h5, .inl (cI, 24, .inl dp)), (h6, .inl (cI, 24, .inl su)), (h7, .inl (cL, 24, .inr (.inl nm)))] := hD.sub [0, 1, 2, 3, 4, 5, 6, 7] (by decide) rfl
        refine lv_aload_n hx hb dd_W_writeAll_56 rfl (lv_at hl 0 rfl) ?_
        refine va_get (D := (dC, dI)) (ci := 2) (v := .ref h3) (C := cn_W) (T := tt_W) (N := 2) hx hb ht in_W hown hK hP 0 rfl rfl 1 (by decide) (ht _ tw_1_179) (fun _ h9 => h9) rfl dd_W_writeAll_57 ?_
        refine lv_iload_n hx hb dd_W_writeAll_60 rfl (lv_at hl 2 rfl) ?_
        obtain ⟨o_61, ho_61, hF⟩ := jv_bi hF
        refine jv_ci (va_runV (C := cn_R) (As := [.int x2]) (rest := []) ⟨hx, hb, hml, hown, ht⟩ (c_R_isTest l dC dI cI cL cC cZ h3 h4 h5 h6 h7 H_24.size ct lo oc kd dp su nm x2 _ ho_61) (cwV 1 ht (gi_V tw_2_76 tw_2_77 tw_2_78 tw_1_3 tw_2_79) rfl rfl rfl (by decide +kernel) ⟨Nat.le_of_ble_eq_true rfl, Nat.le_of_ble_eq_true rfl⟩) (jv_pv hK hP hD [3, 4, 5, 6, 7] rfl (by decide) rfl (va_recv hK hP (ci := 0) (q0 := 3) rfl rfl)) rfl rfl hl.1 rfl (lv_room (Nat.le_of_ble_eq_true rfl)) dd_W_writeAll_61 ⟨Nat.le_of_ble_eq_true rfl, Nat.le_of_ble_eq_true rfl⟩) ?_
        refine lv_if_eq (tgt := 84) hx hb dd_W_writeAll_64 (by decide) (fun c_26 => ?_) (fun c_26 => ?_)
        · have hF := jv_t c_26 hF
          refine lv_aload_n hx hb dd_W_writeAll_84 rfl (lv_at hl 0 rfl) ?_
          refine lv_iload_n hx hb dd_W_writeAll_85 rfl (lv_at hl 2 rfl) ?_
          obtain ⟨o_86, ho_86, hF⟩ := jv_bi hF
          refine jv_mv (wr := []) (w1 := [(h0, .inr (2, [.ref h1, .ref h3])), (h1, .inr (1, [.ref h2, .int o_86.1])), (h2, .inl (cC, 3000, .inl o_86.2)), (h3, .inr (0, [.ref h4, .ref h5, .ref h6, .ref h7, .int ct, .int lo, .int oc])), (h4, .inl (cI, 24, .inl kd)), (h5, .inl (cI, 24, .inl dp)), (h6, .inl (cI, 24, .inl su)), (h7, .inl (cL, 24, .inr (.inl nm)))]) (va_runV (C := cn_W) (As := [.int x2]) (rest := []) ⟨hx, hb, hml, hown, ht⟩ (c_W_writeSubtest l dC dI cI cL cC cZ adK adV h0 h1 h2 h3 h4 h5 h6 h7 H_24.size o_53.1 o_53.2 ct lo oc kd dp su nm x2 _ ho_86) (cwV 1 ht (gi_V tw_2_80 tw_2_82 tw_p_6 tw_1_6 tw_2_83) rfl rfl rfl (by decide +kernel) ⟨Nat.le_of_ble_eq_true rfl, Nat.le_of_ble_eq_true rfl⟩) (jv_sv hK hP hD hS hA hV [0, 1, 2, 3, 4, 5, 6, 7] rfl (by decide) rfl (va_recv hK hP (ci := 2) (q0 := 0) rfl rfl)) rfl rfl hl.1 rfl (lv_room (Nat.le_of_ble_eq_true rfl)) dd_W_writeAll_86 ⟨Nat.le_of_ble_eq_true rfl, Nat.le_of_ble_eq_true rfl⟩) hP hD hS hA [0, 1, 2, 3, 4, 5, 6, 7] [] rfl rfl (by decide) (by decide) (fun H_27 locs_28 hP hD hS => ?_)
          have hP : va_P (dC, dI) vwCl [(h0, .inr (2, [.ref h1, .ref h3])), (h1, .inr (1, [.ref h2, .int o_86.1])), (h2, .inl (cC, 3000, .inl o_86.2)), (h3, .inr (0, [.ref h4, .ref h5, .ref h6, .ref h7, .int ct, .int lo, .int oc])), (h4, .inl (cI, 24, .inl kd)), (h5, .inl (cI, 24, .inl dp)), (h6, .inl (cI, 24, .inl su)), (h7, .inl (cL, 24, .inr (.inl nm)))] H_27 := hP.sub [0, 1, 2, 3, 4, 5, 6, 7] rfl
          have hD : va_D A [(h0, .inr (2, [.ref h1, .ref h3])), (h1, .inr (1, [.ref h2, .int o_86.1])), (h2, .inl (cC, 3000, .inl o_86.2)), (h3, .inr (0, [.ref h4, .ref h5, .ref h6, .ref h7, .int ct, .int lo, .int oc])), (h4, .inl (cI, 24, .inl kd)), (h5, .inl (cI, 24, .inl dp)), (h6, .inl (cI, 24, .inl su)), (h7, .inl (cL, 24, .inr (.inl nm)))] := hD.sub [0, 1, 2, 3, 4, 5, 6, 7] (by decide) rfl
          refine lv_iload_n hx hb dd_W_writeAll_89 rfl (lv_at hl 2 rfl) ?_
          refine lv_istore_n (lv' := [(1, .int x2), (0, .ref h0), (2, .int x2)]) hx hb dd_W_writeAll_90 rfl hl (by decide) rfl (fun ls hl => ?_)
          refine lv_iinc (v := x2 + 1) (lv' := [(2, .int (x2 + 1)), (1, .int x2), (0, .ref h0)]) hx hb dd_W_writeAll_91 hl (k := 2) rfl rfl (by decide) rfl (fun ls hl => ?_)
          refine lv_goto (tgt := 32) hx hb dd_W_writeAll_94 (by decide) ?_
          exact ih32 o_86.1 o_86.2 x2 (x2 + 1) hF H_27 locs_28 hP hD hS ls (lv_sub hl [2, 1, 0] rfl)
        · have hF := jv_f c_26 hF
          refine lv_aload_n hx hb dd_W_writeAll_67 rfl (lv_at hl 0 rfl) ?_
          refine lv_iload_n hx hb dd_W_writeAll_68 rfl (lv_at hl 2 rfl) ?_
          obtain ⟨o_69, ho_69, hF⟩ := jv_bi hF
          refine jv_mv (wr := []) (w1 := [(h0, .inr (2, [.ref h1, .ref h3])), (h1, .inr (1, [.ref h2, .int o_69.1])), (h2, .inl (cC, 3000, .inl o_69.2)), (h3, .inr (0, [.ref h4, .ref h5, .ref h6, .ref h7, .int ct, .int lo, .int oc])), (h4, .inl (cI, 24, .inl kd)), (h5, .inl (cI, 24, .inl dp)), (h6, .inl (cI, 24, .inl su)), (h7, .inl (cL, 24, .inr (.inl nm)))]) (va_runV (C := cn_W) (As := [.int x2]) (rest := []) ⟨hx, hb, hml, hown, ht⟩ (c_W_writeVerdict l dC dI cI cL cC cZ adK adV h0 h1 h2 h3 h4 h5 h6 h7 H_24.size o_53.1 o_53.2 ct lo oc kd dp su nm x2 _ ho_69) (cwV 1 ht (gi_V tw_2_47 tw_2_49 tw_p_5 tw_1_6 tw_2_50) rfl rfl rfl (by decide +kernel) ⟨Nat.le_of_ble_eq_true rfl, Nat.le_of_ble_eq_true rfl⟩) (jv_sv hK hP hD hS hA hV [0, 1, 2, 3, 4, 5, 6, 7] rfl (by decide) rfl (va_recv hK hP (ci := 2) (q0 := 0) rfl rfl)) rfl rfl hl.1 rfl (lv_room (Nat.le_of_ble_eq_true rfl)) dd_W_writeAll_69 ⟨Nat.le_of_ble_eq_true rfl, Nat.le_of_ble_eq_true rfl⟩) hP hD hS hA [0, 1, 2, 3, 4, 5, 6, 7] [] rfl rfl (by decide) (by decide) (fun H_29 locs_30 hP hD hS => ?_)
          have hP : va_P (dC, dI) vwCl [(h0, .inr (2, [.ref h1, .ref h3])), (h1, .inr (1, [.ref h2, .int o_69.1])), (h2, .inl (cC, 3000, .inl o_69.2)), (h3, .inr (0, [.ref h4, .ref h5, .ref h6, .ref h7, .int ct, .int lo, .int oc])), (h4, .inl (cI, 24, .inl kd)), (h5, .inl (cI, 24, .inl dp)), (h6, .inl (cI, 24, .inl su)), (h7, .inl (cL, 24, .inr (.inl nm)))] H_29 := hP.sub [0, 1, 2, 3, 4, 5, 6, 7] rfl
          have hD : va_D A [(h0, .inr (2, [.ref h1, .ref h3])), (h1, .inr (1, [.ref h2, .int o_69.1])), (h2, .inl (cC, 3000, .inl o_69.2)), (h3, .inr (0, [.ref h4, .ref h5, .ref h6, .ref h7, .int ct, .int lo, .int oc])), (h4, .inl (cI, 24, .inl kd)), (h5, .inl (cI, 24, .inl dp)), (h6, .inl (cI, 24, .inl su)), (h7, .inl (cL, 24, .inr (.inl nm)))] := hD.sub [0, 1, 2, 3, 4, 5, 6, 7] (by decide) rfl
          refine lv_aload_n hx hb dd_W_writeAll_72 rfl (lv_at hl 0 rfl) ?_
          refine va_get (D := (dC, dI)) (ci := 2) (v := .ref h3) (C := cn_W) (T := tt_W) (N := 2) hx hb ht in_W hown hK hP 0 rfl rfl 1 (by decide) (ht _ tw_1_179) (fun _ h9 => h9) rfl dd_W_writeAll_73 ?_
          refine lv_iload_n hx hb dd_W_writeAll_76 rfl (lv_at hl 2 rfl) ?_
          obtain ⟨o_77, ho_77, hF⟩ := jv_bi hF
          refine jv_ci (va_runV (C := cn_R) (As := [.int x2]) (rest := []) ⟨hx, hb, hml, hown, ht⟩ (c_R_suiteOf l dC dI cI cL cC cZ h3 h4 h5 h6 h7 H_29.size ct lo oc kd dp su nm x2 _ ho_77) (cwV 1 ht (gi_V tw_2_12 tw_2_13 tw_2_14 tw_1_3 tw_2_15) rfl rfl rfl (by decide +kernel) ⟨Nat.le_of_ble_eq_true rfl, Nat.le_of_ble_eq_true rfl⟩) (jv_pv hK hP hD [3, 4, 5, 6, 7] rfl (by decide) rfl (va_recv hK hP (ci := 0) (q0 := 3) rfl rfl)) rfl rfl hl.1 rfl (lv_room (Nat.le_of_ble_eq_true rfl)) dd_W_writeAll_77 ⟨Nat.le_of_ble_eq_true rfl, Nat.le_of_ble_eq_true rfl⟩) ?_
          refine lv_istore_n (lv' := [(1, .int o_77), (0, .ref h0), (2, .int x2)]) hx hb dd_W_writeAll_80 rfl hl (by decide) rfl (fun ls hl => ?_)
          refine lv_goto (tgt := 91) hx hb dd_W_writeAll_81 (by decide) ?_
          refine lv_iinc (v := x2 + 1) (lv' := [(2, .int (x2 + 1)), (1, .int o_77), (0, .ref h0)]) hx hb dd_W_writeAll_91 hl (k := 2) rfl rfl (by decide) rfl (fun ls hl => ?_)
          refine lv_goto (tgt := 32) hx hb dd_W_writeAll_94 (by decide) ?_
          exact ih32 o_69.1 o_69.2 o_77 (x2 + 1) hF H_29 locs_30 hP hD hS ls (lv_sub hl [2, 1, 0] rfl)
  unfold fn_W_writeAll at hF
  refine lv_aload_n hx hb dd_W_writeAll_0 rfl (lv_at hl 0 rfl) ?_
  refine va_get (D := (dC, dI)) (ci := 2) (v := .ref h1) (C := cn_W) (T := tt_W) (N := 2) hx hb ht in_W hown hK hP 0 rfl rfl 0 (by decide) (ht _ tw_1_178) (fun _ h9 => h9) rfl dd_W_writeAll_1 ?_
  refine lv_iconst (v := 0) hx hb dd_W_writeAll_4 (by decide) ?_
  obtain ⟨o_5, ho_5, hF⟩ := jv_bi hF
  refine jv_mi (wr := [(h0, .inr (2, [.ref h1, .ref h3])), (h3, .inr (0, [.ref h4, .ref h5, .ref h6, .ref h7, .int ct, .int lo, .int oc])), (h4, .inl (cI, 24, .inl kd)), (h5, .inl (cI, 24, .inl dp)), (h6, .inl (cI, 24, .inl su)), (h7, .inl (cL, 24, .inr (.inl nm)))]) (w1 := [(h1, .inr (1, [.ref h2, .int o_5.2])), (h2, .inl (cC, 3000, .inl ch))]) (va_runV (C := cn_P) (As := [.int 0]) (rest := []) ⟨hx, hb, hml, hown, ht⟩ (c_P_shorten l dC dI cI cL cC cZ h1 h2 s.heap.size zp ch 0 _ ho_5) (cwV 1 ht (gi_V tw_1_189 tw_1_190 tw_1_191 tw_1_2 tw_1_192) rfl rfl rfl (by decide +kernel) ⟨Nat.le_of_ble_eq_true rfl, Nat.le_of_ble_eq_true rfl⟩) (jv_pv hK hP hD [1, 2] rfl (by decide) rfl (va_recv hK hP (ci := 1) (q0 := 1) rfl rfl)) rfl rfl hl.1 rfl (lv_room (Nat.le_of_ble_eq_true rfl)) dd_W_writeAll_5 ⟨Nat.le_of_ble_eq_true rfl, Nat.le_of_ble_eq_true rfl⟩) hP hD hS hA [1, 2] [0, 3, 4, 5, 6, 7] rfl rfl (by decide) (by decide) (fun H_31 locs_32 hP hD hS => ?_)
  have hP : va_P (dC, dI) vwCl [(h0, .inr (2, [.ref h1, .ref h3])), (h1, .inr (1, [.ref h2, .int o_5.2])), (h2, .inl (cC, 3000, .inl ch)), (h3, .inr (0, [.ref h4, .ref h5, .ref h6, .ref h7, .int ct, .int lo, .int oc])), (h4, .inl (cI, 24, .inl kd)), (h5, .inl (cI, 24, .inl dp)), (h6, .inl (cI, 24, .inl su)), (h7, .inl (cL, 24, .inr (.inl nm)))] H_31 := hP.sub [0, 6, 7, 1, 2, 3, 4, 5] rfl
  have hD : va_D A [(h0, .inr (2, [.ref h1, .ref h3])), (h1, .inr (1, [.ref h2, .int o_5.2])), (h2, .inl (cC, 3000, .inl ch)), (h3, .inr (0, [.ref h4, .ref h5, .ref h6, .ref h7, .int ct, .int lo, .int oc])), (h4, .inl (cI, 24, .inl kd)), (h5, .inl (cI, 24, .inl dp)), (h6, .inl (cI, 24, .inl su)), (h7, .inl (cL, 24, .inr (.inl nm)))] := hD.sub [0, 6, 7, 1, 2, 3, 4, 5] (by decide) rfl
  refine lv_pop hx hb dd_W_writeAll_8 rfl ?_
  refine lv_aload_n hx hb dd_W_writeAll_9 rfl (lv_at hl 0 rfl) ?_
  refine va_get (D := (dC, dI)) (ci := 2) (v := .ref h1) (C := cn_W) (T := tt_W) (N := 2) hx hb ht in_W hown hK hP 0 rfl rfl 0 (by decide) (ht _ tw_1_178) (fun _ h9 => h9) rfl dd_W_writeAll_10 ?_
  refine va_ldcS hx hb hown (sk_R (k := 11) hV rfl) dd_W_writeAll_13 ?_
  obtain ⟨o_15, ho_15, hF⟩ := jv_bi hF
  refine jv_mv (wr := [(h0, .inr (2, [.ref h1, .ref h3])), (h3, .inr (0, [.ref h4, .ref h5, .ref h6, .ref h7, .int ct, .int lo, .int oc])), (h4, .inl (cI, 24, .inl kd)), (h5, .inl (cI, 24, .inl dp)), (h6, .inl (cI, 24, .inl su)), (h7, .inl (cL, 24, .inr (.inl nm)))]) (w1 := [(h1, .inr (1, [.ref h2, .int o_15.1])), (h2, .inl (cC, 3000, .inl o_15.2))]) (va_runV (C := cn_P) (As := [.ref (adK 0)]) (rest := []) ⟨hx, hb, hml, hown, ht⟩ (c_P_addText l dC dI cI cL cC cZ adK adV h1 h2 H_31.size o_5.2 ch 0 _ ho_15) (cwV 1 ht (gi_V tw_1_194 tw_1_195 tw_1_196 tw_1_2 tw_1_197) rfl rfl rfl (by decide +kernel) ⟨Nat.le_of_ble_eq_true rfl, Nat.le_of_ble_eq_true rfl⟩) (jv_sv hK hP hD hS hA hV [1, 2] rfl (by decide) rfl (va_recv hK hP (ci := 1) (q0 := 1) rfl rfl)) rfl rfl hl.1 rfl (lv_room (Nat.le_of_ble_eq_true rfl)) dd_W_writeAll_15 ⟨Nat.le_of_ble_eq_true rfl, Nat.le_of_ble_eq_true rfl⟩) hP hD hS hA [1, 2] [0, 3, 4, 5, 6, 7] rfl rfl (by decide) (by decide) (fun H_33 locs_34 hP hD hS => ?_)
  have hP : va_P (dC, dI) vwCl [(h0, .inr (2, [.ref h1, .ref h3])), (h1, .inr (1, [.ref h2, .int o_15.1])), (h2, .inl (cC, 3000, .inl o_15.2)), (h3, .inr (0, [.ref h4, .ref h5, .ref h6, .ref h7, .int ct, .int lo, .int oc])), (h4, .inl (cI, 24, .inl kd)), (h5, .inl (cI, 24, .inl dp)), (h6, .inl (cI, 24, .inl su)), (h7, .inl (cL, 24, .inr (.inl nm)))] H_33 := hP.sub [0, 6, 7, 1, 2, 3, 4, 5] rfl
  have hD : va_D A [(h0, .inr (2, [.ref h1, .ref h3])), (h1, .inr (1, [.ref h2, .int o_15.1])), (h2, .inl (cC, 3000, .inl o_15.2)), (h3, .inr (0, [.ref h4, .ref h5, .ref h6, .ref h7, .int ct, .int lo, .int oc])), (h4, .inl (cI, 24, .inl kd)), (h5, .inl (cI, 24, .inl dp)), (h6, .inl (cI, 24, .inl su)), (h7, .inl (cL, 24, .inr (.inl nm)))] := hD.sub [0, 6, 7, 1, 2, 3, 4, 5] (by decide) rfl
  refine lv_aload_n hx hb dd_W_writeAll_18 rfl (lv_at hl 0 rfl) ?_
  refine va_get (D := (dC, dI)) (ci := 2) (v := .ref h1) (C := cn_W) (T := tt_W) (N := 2) hx hb ht in_W hown hK hP 0 rfl rfl 0 (by decide) (ht _ tw_1_178) (fun _ h9 => h9) rfl dd_W_writeAll_19 ?_
  refine lv_bipush (v := 10) hx hb dd_W_writeAll_22 (by decide) ?_
  obtain ⟨o_24, ho_24, hF⟩ := jv_bi hF
  refine jv_mi (wr := [(h0, .inr (2, [.ref h1, .ref h3])), (h3, .inr (0, [.ref h4, .ref h5, .ref h6, .ref h7, .int ct, .int lo, .int oc])), (h4, .inl (cI, 24, .inl kd)), (h5, .inl (cI, 24, .inl dp)), (h6, .inl (cI, 24, .inl su)), (h7, .inl (cL, 24, .inr (.inl nm)))]) (w1 := [(h1, .inr (1, [.ref h2, .int o_24.2.1])), (h2, .inl (cC, 3000, .inl o_24.2.2))]) (va_runV (C := cn_P) (As := [.int 10]) (rest := []) ⟨hx, hb, hml, hown, ht⟩ (c_P_add l dC dI cI cL cC cZ h1 h2 H_33.size o_15.1 o_15.2 10 _ ho_24) (cwV 1 ht (gi_V tw_2_10 tw_2_7 tw_2_8 tw_1_2 tw_2_9) rfl rfl rfl (by decide +kernel) ⟨Nat.le_of_ble_eq_true rfl, Nat.le_of_ble_eq_true rfl⟩) (jv_pv hK hP hD [1, 2] rfl (by decide) rfl (va_recv hK hP (ci := 1) (q0 := 1) rfl rfl)) rfl rfl hl.1 rfl (lv_room (Nat.le_of_ble_eq_true rfl)) dd_W_writeAll_24 ⟨Nat.le_of_ble_eq_true rfl, Nat.le_of_ble_eq_true rfl⟩) hP hD hS hA [1, 2] [0, 3, 4, 5, 6, 7] rfl rfl (by decide) (by decide) (fun H_35 locs_36 hP hD hS => ?_)
  have hP : va_P (dC, dI) vwCl [(h0, .inr (2, [.ref h1, .ref h3])), (h1, .inr (1, [.ref h2, .int o_24.2.1])), (h2, .inl (cC, 3000, .inl o_24.2.2)), (h3, .inr (0, [.ref h4, .ref h5, .ref h6, .ref h7, .int ct, .int lo, .int oc])), (h4, .inl (cI, 24, .inl kd)), (h5, .inl (cI, 24, .inl dp)), (h6, .inl (cI, 24, .inl su)), (h7, .inl (cL, 24, .inr (.inl nm)))] H_35 := hP.sub [0, 6, 7, 1, 2, 3, 4, 5] rfl
  have hD : va_D A [(h0, .inr (2, [.ref h1, .ref h3])), (h1, .inr (1, [.ref h2, .int o_24.2.1])), (h2, .inl (cC, 3000, .inl o_24.2.2)), (h3, .inr (0, [.ref h4, .ref h5, .ref h6, .ref h7, .int ct, .int lo, .int oc])), (h4, .inl (cI, 24, .inl kd)), (h5, .inl (cI, 24, .inl dp)), (h6, .inl (cI, 24, .inl su)), (h7, .inl (cL, 24, .inr (.inl nm)))] := hD.sub [0, 6, 7, 1, 2, 3, 4, 5] (by decide) rfl
  refine lv_pop hx hb dd_W_writeAll_27 rfl ?_
  refine lv_iconst (v := (-1)) hx hb dd_W_writeAll_28 (by decide) ?_
  refine lv_istore_n (lv' := [(1, .int (-1)), (0, .ref h0)]) hx hb dd_W_writeAll_29 rfl hl (by decide) rfl (fun ls hl => ?_)
  refine lv_iconst (v := 0) hx hb dd_W_writeAll_30 (by decide) ?_
  refine lv_istore_n (lv' := [(2, .int 0), (1, .int (-1)), (0, .ref h0)]) hx hb dd_W_writeAll_31 rfl hl (by decide) rfl (fun ls hl => ?_)
  exact lp32 4000 o_24.2.1 o_24.2.2 (-1) 0 hF H_35 locs_36 hP hD hS ls (lv_sub hl [2, 1, 0] rfl)
