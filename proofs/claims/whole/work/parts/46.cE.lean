set_option maxHeartbeats 40000000 in
set_option maxRecDepth 100000 in
theorem c_E_init (l : Launch) (dC : Nat → ClassId) (dI : Nat → Nat → Nat) (cI cL cC cZ : ClassId) (h0 a1 a2 : Nat) (sz : Nat)   (out : Int32) (hF : fn_E_init  = some out) : Met l yy_E_init ws_E_init { frames := 1, cells := 0, slots := 0, locals := 12 } (mP_ (dC, dI) (tk_ cI cL cC cZ) [(h0, .inr (4, [.null, .null, .int 0]))] sz [.ref h0, .ref a1, .ref a2]) (va_Qv (fun _ : Unit => True) (mB_ (dC, dI) (tk_ cI cL cC cZ) [(h0, .inr (4, [.ref a1, .ref a2, .int out]))] (va_A [(h0, .inr (4, [.null, .null, .int 0]))] sz)) (va_A [(h0, .inr (4, [.null, .null, .int 0]))] sz)) 0 0 (va_A [(h0, .inr (4, [.null, .null, .int 0]))] sz) := by
  refine Met.ofW (cc := cc_E_init) (maxL := 3) (ret := none) (by decide) rfl ?_
  intro p e s m args below meth c s₁ B hml hv
  obtain ⟨hargs, hsz, hP, hK, hD0⟩ := hv
  have hx := B.exec
  have hb := B.bytes
  have hr := B.returns
  have hts := atoms_spec (ws := ws_E_init) B.pre
  have ht : ∀ w ∈ TB_, w.before args s = true := fun w h => hts w (List.mem_cons_of_mem _ h)
  have hown : s.vm.findClass cn_E = some m.cls := findClass_of_methodNamed B.named
  have hlocks := B.notSynchronized
  have hin : meth.name = "<init>" := (name_of_methodNamed B.named B.method).1
  subst hsz
  have hD := hD0.self (sz := s.heap.size)
  generalize hAe : va_A [(h0, .inr (4, [.null, .null, .int 0]))] s.heap.size = A at hD ⊢
  have hA : ∀ q : Nat, s.heap.size ≤ q → A q := fun q h => by rw [← hAe]; exact Or.inr h
  have hS : va_S A s.heap s.heap [] := va_S.rf
  have hP : va_P (dC, dI) vwCl [(h0, .inr (4, [.null, .null, .int 0]))] s.heap := hP
  have hl := lv_entry [.ref h0, .ref a1, .ref a2] (n := 3) (Nat.le_of_ble_eq_true rfl)
  have he : entryFrame m args 3 = _ := (congrArg (fun a => entryFrame m a 3) hargs).trans (lg_entry_eq m [.ref h0, .ref a1, .ref a2] 3)
  rw [he]
  generalize (lg_sl [.ref h0, .ref a1, .ref a2] ++ List.replicate (3 - (lg_sl [.ref h0, .ref a1, .ref a2]).length) Slot.unset).toArray = ls at hl ⊢
  have hl : lv_has ls 3 [(0, .ref h0), (1, .ref a1), (2, .ref a2)] := hl
  generalize hQ : MQ below _ args s _ _ _ = Q
  unfold fn_E_init at hF
  refine lv_aload_n hx hb dd_E_init_0 rfl (lv_at hl 0 rfl) ?_
  refine W.objInit hx hb hown (ht _ tw_2_135) (ht _ tw_1_19) (ht _ tw_1_20) rfl (by rw [hml]; exact hl.1) rfl dd_E_init_1 (Nat.le_of_ble_eq_true rfl) (Nat.le_of_ble_eq_true rfl) ?_
  refine W.eq (g2 := F0 m 4 ls []) rfl ?_
  refine lv_aload_n hx hb dd_E_init_4 rfl (lv_at hl 0 rfl) ?_
  refine lv_iconst (v := 0) hx hb dd_E_init_5 (by decide) ?_
  refine va_put (D := (dC, dI)) (ci := 4) (v := .int 0) (ty := .int) (C := cn_E) (T := tt_E) (N := 3) hx hb ht in_E ty_E tyok_E nm_E hown hK hP hD hS 0 rfl rfl 2 (by decide) (ht _ tw_2_138) (fun _ h9 => h9) rfl (by decide +kernel) rfl rfl (Nat.le_of_ble_eq_true rfl) dd_E_init_6 (fun H_7 locs_8 hP hD hS => ?_)
  have hP : va_P (dC, dI) vwCl [(h0, .inr (4, [.null, .null, .int 0]))] H_7 := hP
  have hD : va_D A [(h0, .inr (4, [.null, .null, .int 0]))] := hD
  refine lv_aload_n hx hb dd_E_init_9 rfl (lv_at hl 0 rfl) ?_
  refine lv_aload_n hx hb dd_E_init_10 rfl (lv_at hl 1 rfl) ?_
  refine va_putF (D := (dC, dI)) (ci := 4) (v := .ref a1) (ty := (.object "VerdictPages$LineCursor")) (C := cn_E) (T := tt_E) (N := 3) hx hb ht in_E ty_E tyok_E nm_E hown hK hP hD hS 0 rfl rfl 0 (by decide) (ht _ tw_2_136) (fun _ h9 => h9) rfl hin rfl (by decide +kernel) rfl rfl (Nat.le_of_ble_eq_true rfl) dd_E_init_11 (fun H_9 locs_10 hP hD hS => ?_)
  have hP : va_P (dC, dI) vwCl [(h0, .inr (4, [.ref a1, .null, .int 0]))] H_9 := hP
  have hD : va_D A [(h0, .inr (4, [.ref a1, .null, .int 0]))] := hD
  refine lv_aload_n hx hb dd_E_init_14 rfl (lv_at hl 0 rfl) ?_
  refine lv_aload_n hx hb dd_E_init_15 rfl (lv_at hl 2 rfl) ?_
  refine va_putF (D := (dC, dI)) (ci := 4) (v := .ref a2) (ty := (.object "VerdictPages$Report")) (C := cn_E) (T := tt_E) (N := 3) hx hb ht in_E ty_E tyok_E nm_E hown hK hP hD hS 0 rfl rfl 1 (by decide) (ht _ tw_2_137) (fun _ h9 => h9) rfl hin rfl (by decide +kernel) rfl rfl (Nat.le_of_ble_eq_true rfl) dd_E_init_16 (fun H_11 locs_12 hP hD hS => ?_)
  have hP : va_P (dC, dI) vwCl [(h0, .inr (4, [.ref a1, .ref a2, .int 0]))] H_11 := hP
  have hD : va_D A [(h0, .inr (4, [.ref a1, .ref a2, .int 0]))] := hD
  subst hQ
  obtain rfl := Option.some.inj hF
  have hP := hP.sub (ws' := [(h0, .inr (4, [.ref a1, .ref a2, .int 0]))]) [0] rfl
  have hD := hD.sub (ws' := [(h0, .inr (4, [.ref a1, .ref a2, .int 0]))]) [0] (by decide) rfl
  exact W.vret hx hb hr (fun t ht hW => ⟨⟨(), rfl, trivial, by rw [ht]; exact hP, va_K.moved hW.alike hK, hD⟩, hS.F ht⟩) hS.2.2 dd_E_init_19
set_option maxHeartbeats 40000000 in
set_option maxRecDepth 100000 in
theorem c_E_takeTest (l : Launch) (dC : Nat → ClassId) (dI : Nat → Nat → Nat) (cI cL cC cZ : ClassId) (adK adV : Nat → Nat) (h0 h1 h2 h3 h4 h5 h6 h7 : Nat) (sz : Nat) (sg : Int32) (cz : Int32) (sp : Int32) (le : Int32) (ch : Nat → Int32) (ct : Int32) (lo : Int32) (oc : Int32) (kd : Nat → Int32) (dp : Nat → Int32) (su : Nat → Int32) (nm : Nat → Int64) (x1 : Int32) (x2 : Nat) (x3 : Int32) (out : Int32 × Int32 × Int32 × Int32 × Int32 × (Nat → Int32) × (Nat → Int32) × (Nat → Int32) × (Nat → Int64)) (hF : fn_E_takeTest le ch sp ct lo oc kd dp su nm x1 x2 x3 = some out) : Met l yy_E_takeTest ws_E_takeTest { frames := 5, cells := 0, slots := 0, locals := 107 } (mS_ adK adV (dC, dI) (tk_ cI cL cC cZ) [(h0, .inr (4, [.ref h1, .ref h3, .int sg])), (h1, .inr (3, [.ref h2, .int cz, .int sp, .int le])), (h2, .inl (cC, 3000, .inl ch)), (h3, .inr (0, [.ref h4, .ref h5, .ref h6, .ref h7, .int ct, .int lo, .int oc])), (h4, .inl (cI, 24, .inl kd)), (h5, .inl (cI, 24, .inl dp)), (h6, .inl (cI, 24, .inl su)), (h7, .inl (cL, 24, .inr (.inl nm)))] sz [.ref h0, .int x1, .ref (adK x2), .int x3]) (va_Qi (fun r (_ : Unit) => r = out.1) (mB_ (dC, dI) (tk_ cI cL cC cZ) [(h0, .inr (4, [.ref h1, .ref h3, .int sg])), (h1, .inr (3, [.ref h2, .int cz, .int out.2.1, .int le])), (h2, .inl (cC, 3000, .inl ch)), (h3, .inr (0, [.ref h4, .ref h5, .ref h6, .ref h7, .int out.2.2.1, .int out.2.2.2.1, .int out.2.2.2.2.1])), (h4, .inl (cI, 24, .inl out.2.2.2.2.2.1)), (h5, .inl (cI, 24, .inl out.2.2.2.2.2.2.1)), (h6, .inl (cI, 24, .inl out.2.2.2.2.2.2.2.1)), (h7, .inl (cL, 24, .inr (.inl out.2.2.2.2.2.2.2.2)))] (va_A [(h0, .inr (4, [.ref h1, .ref h3, .int sg])), (h1, .inr (3, [.ref h2, .int cz, .int sp, .int le])), (h2, .inl (cC, 3000, .inl ch)), (h3, .inr (0, [.ref h4, .ref h5, .ref h6, .ref h7, .int ct, .int lo, .int oc])), (h4, .inl (cI, 24, .inl kd)), (h5, .inl (cI, 24, .inl dp)), (h6, .inl (cI, 24, .inl su)), (h7, .inl (cL, 24, .inr (.inl nm)))] sz)) (va_A [(h0, .inr (4, [.ref h1, .ref h3, .int sg])), (h1, .inr (3, [.ref h2, .int cz, .int sp, .int le])), (h2, .inl (cC, 3000, .inl ch)), (h3, .inr (0, [.ref h4, .ref h5, .ref h6, .ref h7, .int ct, .int lo, .int oc])), (h4, .inl (cI, 24, .inl kd)), (h5, .inl (cI, 24, .inl dp)), (h6, .inl (cI, 24, .inl su)), (h7, .inl (cL, 24, .inr (.inl nm)))] sz)) 0 0 (va_A [(h0, .inr (4, [.ref h1, .ref h3, .int sg])), (h1, .inr (3, [.ref h2, .int cz, .int sp, .int le])), (h2, .inl (cC, 3000, .inl ch)), (h3, .inr (0, [.ref h4, .ref h5, .ref h6, .ref h7, .int ct, .int lo, .int oc])), (h4, .inl (cI, 24, .inl kd)), (h5, .inl (cI, 24, .inl dp)), (h6, .inl (cI, 24, .inl su)), (h7, .inl (cL, 24, .inr (.inl nm)))] sz) := by
  refine Met.ofW (cc := cc_E_takeTest) (maxL := 8) (ret := (some .boolean)) (by decide) rfl ?_
  intro p e s m args below meth c s₁ B hml hv
  obtain ⟨hargs, hsz, hP, hK, hD0, hV⟩ := hv
  have hx := B.exec
  have hb := B.bytes
  have hr := B.returns
  have hts := atoms_spec (ws := ws_E_takeTest) B.pre
  have ht : ∀ w ∈ TB_, w.before args s = true := fun w h => hts w (List.mem_cons_of_mem _ h)
  have hown : s.vm.findClass cn_E = some m.cls := findClass_of_methodNamed B.named
  have hlocks := B.notSynchronized
  subst hsz
  have hD := hD0.self (sz := s.heap.size)
  generalize hAe : va_A [(h0, .inr (4, [.ref h1, .ref h3, .int sg])), (h1, .inr (3, [.ref h2, .int cz, .int sp, .int le])), (h2, .inl (cC, 3000, .inl ch)), (h3, .inr (0, [.ref h4, .ref h5, .ref h6, .ref h7, .int ct, .int lo, .int oc])), (h4, .inl (cI, 24, .inl kd)), (h5, .inl (cI, 24, .inl dp)), (h6, .inl (cI, 24, .inl su)), (h7, .inl (cL, 24, .inr (.inl nm)))] s.heap.size = A at hD ⊢ hV
  have hA : ∀ q : Nat, s.heap.size ≤ q → A q := fun q h => by rw [← hAe]; exact Or.inr h
  have hS : va_S A s.heap s.heap [] := va_S.rf
  have hP : va_P (dC, dI) vwCl [(h0, .inr (4, [.ref h1, .ref h3, .int sg])), (h1, .inr (3, [.ref h2, .int cz, .int sp, .int le])), (h2, .inl (cC, 3000, .inl ch)), (h3, .inr (0, [.ref h4, .ref h5, .ref h6, .ref h7, .int ct, .int lo, .int oc])), (h4, .inl (cI, 24, .inl kd)), (h5, .inl (cI, 24, .inl dp)), (h6, .inl (cI, 24, .inl su)), (h7, .inl (cL, 24, .inr (.inl nm)))] s.heap := hP
  have hl := lv_entry [.ref h0, .int x1, .ref (adK x2), .int x3] (n := 8) (Nat.le_of_ble_eq_true rfl)
  have he : entryFrame m args 8 = _ := (congrArg (fun a => entryFrame m a 8) hargs).trans (lg_entry_eq m [.ref h0, .int x1, .ref (adK x2), .int x3] 8)
  rw [he]
  generalize (lg_sl [.ref h0, .int x1, .ref (adK x2), .int x3] ++ List.replicate (8 - (lg_sl [.ref h0, .int x1, .ref (adK x2), .int x3]).length) Slot.unset).toArray = ls at hl ⊢
  have hl : lv_has ls 8 [(0, .ref h0), (1, .int x1), (2, .ref (adK x2)), (3, .int x3)] := hl
  generalize hQ : MQ below _ args s _ _ _ = Q
  have bl69 : ∀ (sp : Int32) (ct : Int32) (lo : Int32) (oc : Int32) (kd : Nat → Int32) (dp : Nat → Int32) (su : Nat → Int32) (nm : Nat → Int64) (x5 : Int64) (y0 : Int32), fb_E_takeTest_69 le ch  sp ct lo oc kd dp su nm x5 y0 = some out → ∀ (H : Heap) (locs : List Loc), va_P (dC, dI) vwCl [(h0, .inr (4, [.ref h1, .ref h3, .int sg])), (h1, .inr (3, [.ref h2, .int cz, .int sp, .int le])), (h2, .inl (cC, 3000, .inl ch)), (h3, .inr (0, [.ref h4, .ref h5, .ref h6, .ref h7, .int ct, .int lo, .int oc])), (h4, .inl (cI, 24, .inl kd)), (h5, .inl (cI, 24, .inl dp)), (h6, .inl (cI, 24, .inl su)), (h7, .inl (cL, 24, .inr (.inl nm)))] H → va_D A [(h0, .inr (4, [.ref h1, .ref h3, .int sg])), (h1, .inr (3, [.ref h2, .int cz, .int sp, .int le])), (h2, .inl (cC, 3000, .inl ch)), (h3, .inr (0, [.ref h4, .ref h5, .ref h6, .ref h7, .int ct, .int lo, .int oc])), (h4, .inl (cI, 24, .inl kd)), (h5, .inl (cI, 24, .inl dp)), (h6, .inl (cI, 24, .inl su)), (h7, .inl (cL, 24, .inr (.inl nm)))] → va_S A s.heap H locs → ∀ ls : Array Slot, lv_has ls 8 [(0, .ref h0), (5, .long x5)] → W p l e (headSpec ws_E_takeTest { frames := 5, cells := 0, slots := 0, locals := 107 }).room s m args below meth c H locs 0 0 Q (F0 m 69 ls [.int y0]) := by
    intro sp ct lo oc kd dp su nm x5 y0 hF H locs hP hD hS ls hl
    unfold fb_E_takeTest_69 at hF
    refine lv_istore (lv' := [(7, .int y0), (0, .ref h0), (5, .long x5)]) hx hb dd_E_takeTest_69 hl (by decide) rfl (fun ls hl => ?_)
    refine lv_aload_n hx hb dd_E_takeTest_71 rfl (lv_at hl 1 rfl) ?_
    refine va_get (D := (dC, dI)) (ci := 4) (v := .ref h3) (C := cn_E) (T := tt_E) (N := 3) hx hb ht in_E hown hK hP 0 rfl rfl 1 (by decide) (ht _ tw_2_137) (fun _ h9 => h9) rfl dd_E_takeTest_72 ?_
    refine lv_iload hx hb dd_E_takeTest_75 (lv_at hl 0 rfl) ?_
    refine lv_lload hx hb dd_E_takeTest_77 (lv_at hl 2 rfl) ?_
    obtain ⟨o_79, ho_79, hF⟩ := jv_bi hF
    refine jv_mi (wr := [(h0, .inr (4, [.ref h1, .ref h3, .int sg])), (h1, .inr (3, [.ref h2, .int cz, .int sp, .int le])), (h2, .inl (cC, 3000, .inl ch))]) (w1 := [(h3, .inr (0, [.ref h4, .ref h5, .ref h6, .ref h7, .int o_79.2.1, .int o_79.2.2.1, .int o_79.2.2.2.1])), (h4, .inl (cI, 24, .inl o_79.2.2.2.2.1)), (h5, .inl (cI, 24, .inl o_79.2.2.2.2.2.1)), (h6, .inl (cI, 24, .inl o_79.2.2.2.2.2.2.1)), (h7, .inl (cL, 24, .inr (.inl o_79.2.2.2.2.2.2.2)))]) (va_runV (C := cn_R) (As := [.int y0, .long x5]) (rest := []) ⟨hx, hb, hml, hown, ht⟩ (c_R_addNode l dC dI cI cL cC cZ h3 h4 h5 h6 h7 H.size ct lo oc kd dp su nm y0 x5 _ ho_79) (cwV 2 ht (gi_V tw_2_203 tw_1_103 tw_1_104 tw_1_3 tw_1_105) rfl rfl rfl (by decide +kernel) ⟨Nat.le_of_ble_eq_true rfl, Nat.le_of_ble_eq_true rfl⟩) (jv_pv hK hP hD [3, 4, 5, 6, 7] rfl (by decide) rfl (va_recv hK hP (ci := 0) (q0 := 3) rfl rfl)) rfl rfl hl.1 rfl (lv_room (Nat.le_of_ble_eq_true rfl)) dd_E_takeTest_79 ⟨Nat.le_of_ble_eq_true rfl, Nat.le_of_ble_eq_true rfl⟩) hP hD hS hA [3, 4, 5, 6, 7] [0, 1, 2] rfl rfl (by decide) (by decide) (fun H_15 locs_16 hP hD hS => ?_)
    have hP : va_P (dC, dI) vwCl [(h0, .inr (4, [.ref h1, .ref h3, .int sg])), (h1, .inr (3, [.ref h2, .int cz, .int sp, .int le])), (h2, .inl (cC, 3000, .inl ch)), (h3, .inr (0, [.ref h4, .ref h5, .ref h6, .ref h7, .int o_79.2.1, .int o_79.2.2.1, .int o_79.2.2.2.1])), (h4, .inl (cI, 24, .inl o_79.2.2.2.2.1)), (h5, .inl (cI, 24, .inl o_79.2.2.2.2.2.1)), (h6, .inl (cI, 24, .inl o_79.2.2.2.2.2.2.1)), (h7, .inl (cL, 24, .inr (.inl o_79.2.2.2.2.2.2.2)))] H_15 := hP.sub [0, 1, 2, 3, 4, 5, 6, 7] rfl
    have hD : va_D A [(h0, .inr (4, [.ref h1, .ref h3, .int sg])), (h1, .inr (3, [.ref h2, .int cz, .int sp, .int le])), (h2, .inl (cC, 3000, .inl ch)), (h3, .inr (0, [.ref h4, .ref h5, .ref h6, .ref h7, .int o_79.2.1, .int o_79.2.2.1, .int o_79.2.2.2.1])), (h4, .inl (cI, 24, .inl o_79.2.2.2.2.1)), (h5, .inl (cI, 24, .inl o_79.2.2.2.2.2.1)), (h6, .inl (cI, 24, .inl o_79.2.2.2.2.2.2.1)), (h7, .inl (cL, 24, .inr (.inl o_79.2.2.2.2.2.2.2)))] := hD.sub [0, 1, 2, 3, 4, 5, 6, 7] (by decide) rfl
    refine lv_if_lt (tgt := 89) hx hb dd_E_takeTest_82 (by decide) (fun c_17 => ?_) (fun c_17 => ?_)
    · have hF := jv_t c_17 hF
      refine lv_iconst (v := 0) hx hb dd_E_takeTest_89 (by decide) ?_
      subst hQ
      obtain rfl := Option.some.inj hF
      exact W.zret (v := 0) hx hb hr rfl (fun t ht hW => ⟨⟨0, (), rfl, rfl, by rw [ht]; exact hP, va_K.moved hW.alike hK, hD⟩, hS.F ht⟩) hS.2.2 dd_E_takeTest_90
    · have hF := jv_f c_17 hF
      refine lv_iconst (v := 1) hx hb dd_E_takeTest_85 (by decide) ?_
      refine lv_goto (tgt := 90) hx hb dd_E_takeTest_86 (by decide) ?_
      subst hQ
      obtain rfl := Option.some.inj hF
      exact W.zret (v := 1) hx hb hr rfl (fun t ht hW => ⟨⟨1, (), rfl, rfl, by rw [ht]; exact hP, va_K.moved hW.alike hK, hD⟩, hS.F ht⟩) hS.2.2 dd_E_takeTest_90
  unfold fn_E_takeTest at hF
  refine lv_aload_n hx hb dd_E_takeTest_0 rfl (lv_at hl 0 rfl) ?_
  refine va_get (D := (dC, dI)) (ci := 4) (v := .ref h3) (C := cn_E) (T := tt_E) (N := 3) hx hb ht in_E hown hK hP 0 rfl rfl 1 (by decide) (ht _ tw_2_137) (fun _ h9 => h9) rfl dd_E_takeTest_1 ?_
  refine lv_aload_n hx hb dd_E_takeTest_4 rfl (lv_at hl 0 rfl) ?_
  refine va_get (D := (dC, dI)) (ci := 4) (v := .ref h3) (C := cn_E) (T := tt_E) (N := 3) hx hb ht in_E hown hK hP 0 rfl rfl 1 (by decide) (ht _ tw_2_137) (fun _ h9 => h9) rfl dd_E_takeTest_5 ?_
  obtain ⟨o_8, ho_8, hF⟩ := jv_bi hF
  refine jv_ci (va_runV (C := cn_R) (As := []) (rest := [.ref h3]) ⟨hx, hb, hml, hown, ht⟩ (c_R_innermost l dC dI cI cL cC cZ h3 h4 h5 h6 h7 s.heap.size ct lo oc kd dp su nm _ ho_8) (cwV 0 ht (gi_V tw_2_183 tw_2_86 tw_2_87 tw_1_3 tw_2_88) rfl rfl rfl (by decide +kernel) ⟨Nat.le_of_ble_eq_true rfl, Nat.le_of_ble_eq_true rfl⟩) (jv_pv hK hP hD [3, 4, 5, 6, 7] rfl (by decide) rfl (va_recv hK hP (ci := 0) (q0 := 3) rfl rfl)) rfl rfl hl.1 rfl (lv_room (Nat.le_of_ble_eq_true rfl)) dd_E_takeTest_8 ⟨Nat.le_of_ble_eq_true rfl, Nat.le_of_ble_eq_true rfl⟩) ?_
  obtain ⟨o_11, ho_11, hF⟩ := jv_bi hF
  refine jv_ci (va_runV (C := cn_R) (As := [.int o_8]) (rest := []) ⟨hx, hb, hml, hown, ht⟩ (c_R_rowSize l dC dI cI cL cC cZ h3 h4 h5 h6 h7 s.heap.size ct lo oc kd dp su nm o_8 _ ho_11) (cwV 1 ht (gi_V tw_2_184 tw_2_36 tw_2_37 tw_1_3 tw_2_38) rfl rfl rfl (by decide +kernel) ⟨Nat.le_of_ble_eq_true rfl, Nat.le_of_ble_eq_true rfl⟩) (jv_pv hK hP hD [3, 4, 5, 6, 7] rfl (by decide) rfl (va_recv hK hP (ci := 0) (q0 := 3) rfl rfl)) rfl rfl hl.1 rfl (lv_room (Nat.le_of_ble_eq_true rfl)) dd_E_takeTest_11 ⟨Nat.le_of_ble_eq_true rfl, Nat.le_of_ble_eq_true rfl⟩) ?_
  refine lv_iconst (v := 1) hx hb dd_E_takeTest_14 (by decide) ?_
  refine lv_iadd hx hb dd_E_takeTest_15 ?_
  refine lv_istore (lv' := [(4, .int (o_11 + 1)), (0, .ref h0), (1, .int x1), (2, .ref (adK x2)), (3, .int x3)]) hx hb dd_E_takeTest_16 hl (by decide) rfl (fun ls hl => ?_)
  refine lv_aload_n hx hb dd_E_takeTest_18 rfl (lv_at hl 1 rfl) ?_
  refine va_get (D := (dC, dI)) (ci := 4) (v := .ref h1) (C := cn_E) (T := tt_E) (N := 3) hx hb ht in_E hown hK hP 0 rfl rfl 0 (by decide) (ht _ tw_2_136) (fun _ h9 => h9) rfl dd_E_takeTest_19 ?_
  refine lv_iload hx hb dd_E_takeTest_22 (lv_at hl 0 rfl) ?_
  obtain ⟨o_24, ho_24, hF⟩ := jv_bi hF
  refine jv_mi (wr := [(h0, .inr (4, [.ref h1, .ref h3, .int sg])), (h3, .inr (0, [.ref h4, .ref h5, .ref h6, .ref h7, .int ct, .int lo, .int oc])), (h4, .inl (cI, 24, .inl kd)), (h5, .inl (cI, 24, .inl dp)), (h6, .inl (cI, 24, .inl su)), (h7, .inl (cL, 24, .inr (.inl nm)))]) (w1 := [(h1, .inr (3, [.ref h2, .int cz, .int o_24.2, .int le])), (h2, .inl (cC, 3000, .inl ch))]) (va_runV (C := cn_C) (As := [.int (o_11 + 1)]) (rest := []) ⟨hx, hb, hml, hown, ht⟩ (c_C_skipNumber l dC dI cI cL cC cZ h1 h2 s.heap.size cz sp le ch (o_11 + 1) _ ho_24) (cwV 1 ht (gi_V tw_2_185 tw_2_186 tw_2_187 tw_1_12 tw_2_188) rfl rfl rfl (by decide +kernel) ⟨Nat.le_of_ble_eq_true rfl, Nat.le_of_ble_eq_true rfl⟩) (jv_pv hK hP hD [1, 2] rfl (by decide) rfl (va_recv hK hP (ci := 3) (q0 := 1) rfl rfl)) rfl rfl hl.1 rfl (lv_room (Nat.le_of_ble_eq_true rfl)) dd_E_takeTest_24 ⟨Nat.le_of_ble_eq_true rfl, Nat.le_of_ble_eq_true rfl⟩) hP hD hS hA [1, 2] [0, 3, 4, 5, 6, 7] rfl rfl (by decide) (by decide) (fun H_18 locs_19 hP hD hS => ?_)
  have hP : va_P (dC, dI) vwCl [(h0, .inr (4, [.ref h1, .ref h3, .int sg])), (h1, .inr (3, [.ref h2, .int cz, .int o_24.2, .int le])), (h2, .inl (cC, 3000, .inl ch)), (h3, .inr (0, [.ref h4, .ref h5, .ref h6, .ref h7, .int ct, .int lo, .int oc])), (h4, .inl (cI, 24, .inl kd)), (h5, .inl (cI, 24, .inl dp)), (h6, .inl (cI, 24, .inl su)), (h7, .inl (cL, 24, .inr (.inl nm)))] H_18 := hP.sub [0, 6, 7, 1, 2, 3, 4, 5] rfl
  have hD : va_D A [(h0, .inr (4, [.ref h1, .ref h3, .int sg])), (h1, .inr (3, [.ref h2, .int cz, .int o_24.2, .int le])), (h2, .inl (cC, 3000, .inl ch)), (h3, .inr (0, [.ref h4, .ref h5, .ref h6, .ref h7, .int ct, .int lo, .int oc])), (h4, .inl (cI, 24, .inl kd)), (h5, .inl (cI, 24, .inl dp)), (h6, .inl (cI, 24, .inl su)), (h7, .inl (cL, 24, .inr (.inl nm)))] := hD.sub [0, 6, 7, 1, 2, 3, 4, 5] (by decide) rfl
  refine lv_if_eq (tgt := 42) hx hb dd_E_takeTest_27 (by decide) (fun c_20 => ?_) (fun c_20 => ?_)
  · have hF := jv_t c_20 hF
    refine lv_iconst (v := 0) hx hb dd_E_takeTest_42 (by decide) ?_
    subst hQ
    obtain rfl := Option.some.inj hF
    exact W.zret (v := 0) hx hb hr rfl (fun t ht hW => ⟨⟨0, (), rfl, rfl, by rw [ht]; exact hP, va_K.moved hW.alike hK, hD⟩, hS.F ht⟩) hS.2.2 dd_E_takeTest_43
  · have hF := jv_f c_20 hF
    refine lv_aload_n hx hb dd_E_takeTest_30 rfl (lv_at hl 1 rfl) ?_
    refine va_get (D := (dC, dI)) (ci := 4) (v := .ref h1) (C := cn_E) (T := tt_E) (N := 3) hx hb ht in_E hown hK hP 0 rfl rfl 0 (by decide) (ht _ tw_2_136) (fun _ h9 => h9) rfl dd_E_takeTest_31 ?_
    refine va_ldcS hx hb hown (sk_R (k := 9) hV rfl) dd_E_takeTest_34 ?_
    obtain ⟨o_36, ho_36, hF⟩ := jv_bi hF
    refine jv_mi (wr := [(h0, .inr (4, [.ref h1, .ref h3, .int sg])), (h3, .inr (0, [.ref h4, .ref h5, .ref h6, .ref h7, .int ct, .int lo, .int oc])), (h4, .inl (cI, 24, .inl kd)), (h5, .inl (cI, 24, .inl dp)), (h6, .inl (cI, 24, .inl su)), (h7, .inl (cL, 24, .inr (.inl nm)))]) (w1 := [(h1, .inr (3, [.ref h2, .int cz, .int o_36.2, .int le])), (h2, .inl (cC, 3000, .inl ch))]) (va_runV (C := cn_C) (As := [.ref (adK 5)]) (rest := []) ⟨hx, hb, hml, hown, ht⟩ (c_C_skipText l dC dI cI cL cC cZ adK adV h1 h2 H_18.size cz o_24.2 le ch 5 _ ho_36) (cwV 1 ht (gi_V tw_2_164 tw_2_165 tw_2_166 tw_1_12 tw_2_167) rfl rfl rfl (by decide +kernel) ⟨Nat.le_of_ble_eq_true rfl, Nat.le_of_ble_eq_true rfl⟩) (jv_sv hK hP hD hS hA hV [1, 2] rfl (by decide) rfl (va_recv hK hP (ci := 3) (q0 := 1) rfl rfl)) rfl rfl hl.1 rfl (lv_room (Nat.le_of_ble_eq_true rfl)) dd_E_takeTest_36 ⟨Nat.le_of_ble_eq_true rfl, Nat.le_of_ble_eq_true rfl⟩) hP hD hS hA [1, 2] [0, 3, 4, 5, 6, 7] rfl rfl (by decide) (by decide) (fun H_21 locs_22 hP hD hS => ?_)
    have hP : va_P (dC, dI) vwCl [(h0, .inr (4, [.ref h1, .ref h3, .int sg])), (h1, .inr (3, [.ref h2, .int cz, .int o_36.2, .int le])), (h2, .inl (cC, 3000, .inl ch)), (h3, .inr (0, [.ref h4, .ref h5, .ref h6, .ref h7, .int ct, .int lo, .int oc])), (h4, .inl (cI, 24, .inl kd)), (h5, .inl (cI, 24, .inl dp)), (h6, .inl (cI, 24, .inl su)), (h7, .inl (cL, 24, .inr (.inl nm)))] H_21 := hP.sub [0, 6, 7, 1, 2, 3, 4, 5] rfl
    have hD : va_D A [(h0, .inr (4, [.ref h1, .ref h3, .int sg])), (h1, .inr (3, [.ref h2, .int cz, .int o_36.2, .int le])), (h2, .inl (cC, 3000, .inl ch)), (h3, .inr (0, [.ref h4, .ref h5, .ref h6, .ref h7, .int ct, .int lo, .int oc])), (h4, .inl (cI, 24, .inl kd)), (h5, .inl (cI, 24, .inl dp)), (h6, .inl (cI, 24, .inl su)), (h7, .inl (cL, 24, .inr (.inl nm)))] := hD.sub [0, 6, 7, 1, 2, 3, 4, 5] (by decide) rfl
    refine lv_if_ne (tgt := 44) hx hb dd_E_takeTest_39 (by decide) (fun c_23 => ?_) (fun c_23 => ?_)
    · have hF := jv_f c_23 hF
      refine lv_aload_n hx hb dd_E_takeTest_44 rfl (lv_at hl 1 rfl) ?_
      refine va_get (D := (dC, dI)) (ci := 4) (v := .ref h1) (C := cn_E) (T := tt_E) (N := 3) hx hb ht in_E hown hK hP 0 rfl rfl 0 (by decide) (ht _ tw_2_136) (fun _ h9 => h9) rfl dd_E_takeTest_45 ?_
      obtain ⟨o_48, ho_48, hF⟩ := jv_bi hF
      refine jv_ml (wr := [(h0, .inr (4, [.ref h1, .ref h3, .int sg])), (h3, .inr (0, [.ref h4, .ref h5, .ref h6, .ref h7, .int ct, .int lo, .int oc])), (h4, .inl (cI, 24, .inl kd)), (h5, .inl (cI, 24, .inl dp)), (h6, .inl (cI, 24, .inl su)), (h7, .inl (cL, 24, .inr (.inl nm)))]) (w1 := [(h1, .inr (3, [.ref h2, .int cz, .int o_48.2, .int le])), (h2, .inl (cC, 3000, .inl ch))]) (va_runV (C := cn_C) (As := []) (rest := []) ⟨hx, hb, hml, hown, ht⟩ (c_C_takeName l dC dI cI cL cC cZ h1 h2 H_21.size cz o_36.2 le ch _ ho_48) (cwV 0 ht (gi_V tw_2_194 tw_2_195 tw_2_196 tw_1_12 tw_2_197) rfl rfl rfl (by decide +kernel) ⟨Nat.le_of_ble_eq_true rfl, Nat.le_of_ble_eq_true rfl⟩) (jv_pv hK hP hD [1, 2] rfl (by decide) rfl (va_recv hK hP (ci := 3) (q0 := 1) rfl rfl)) rfl rfl hl.1 rfl (lv_room (Nat.le_of_ble_eq_true rfl)) dd_E_takeTest_48 ⟨Nat.le_of_ble_eq_true rfl, Nat.le_of_ble_eq_true rfl⟩) hP hD hS hA [1, 2] [0, 3, 4, 5, 6, 7] rfl rfl (by decide) (by decide) (fun H_24 locs_25 hP hD hS => ?_)
      have hP : va_P (dC, dI) vwCl [(h0, .inr (4, [.ref h1, .ref h3, .int sg])), (h1, .inr (3, [.ref h2, .int cz, .int o_48.2, .int le])), (h2, .inl (cC, 3000, .inl ch)), (h3, .inr (0, [.ref h4, .ref h5, .ref h6, .ref h7, .int ct, .int lo, .int oc])), (h4, .inl (cI, 24, .inl kd)), (h5, .inl (cI, 24, .inl dp)), (h6, .inl (cI, 24, .inl su)), (h7, .inl (cL, 24, .inr (.inl nm)))] H_24 := hP.sub [0, 6, 7, 1, 2, 3, 4, 5] rfl
      have hD : va_D A [(h0, .inr (4, [.ref h1, .ref h3, .int sg])), (h1, .inr (3, [.ref h2, .int cz, .int o_48.2, .int le])), (h2, .inl (cC, 3000, .inl ch)), (h3, .inr (0, [.ref h4, .ref h5, .ref h6, .ref h7, .int ct, .int lo, .int oc])), (h4, .inl (cI, 24, .inl kd)), (h5, .inl (cI, 24, .inl dp)), (h6, .inl (cI, 24, .inl su)), (h7, .inl (cL, 24, .inr (.inl nm)))] := hD.sub [0, 6, 7, 1, 2, 3, 4, 5] (by decide) rfl
      refine lv_lstore (lv' := [(5, .long o_48.1), (4, .int (o_11 + 1)), (0, .ref h0), (1, .int x1), (2, .ref (adK x2)), (3, .int x3)]) hx hb dd_E_takeTest_51 hl (by decide) rfl (fun ls hl => ?_)
      refine lv_aload_n hx hb dd_E_takeTest_53 rfl (lv_at hl 2 rfl) ?_
      refine va_get (D := (dC, dI)) (ci := 4) (v := .ref h1) (C := cn_E) (T := tt_E) (N := 3) hx hb ht in_E hown hK hP 0 rfl rfl 0 (by decide) (ht _ tw_2_136) (fun _ h9 => h9) rfl dd_E_takeTest_54 ?_
      refine lv_aload_n hx hb dd_E_takeTest_57 rfl (lv_at hl 4 rfl) ?_
      obtain ⟨o_58, ho_58, hF⟩ := jv_bi hF
      refine jv_mi (wr := [(h0, .inr (4, [.ref h1, .ref h3, .int sg])), (h3, .inr (0, [.ref h4, .ref h5, .ref h6, .ref h7, .int ct, .int lo, .int oc])), (h4, .inl (cI, 24, .inl kd)), (h5, .inl (cI, 24, .inl dp)), (h6, .inl (cI, 24, .inl su)), (h7, .inl (cL, 24, .inr (.inl nm)))]) (w1 := [(h1, .inr (3, [.ref h2, .int cz, .int o_58.2, .int le])), (h2, .inl (cC, 3000, .inl ch))]) (va_runV (C := cn_C) (As := [.ref (adK x2)]) (rest := []) ⟨hx, hb, hml, hown, ht⟩ (c_C_skipText l dC dI cI cL cC cZ adK adV h1 h2 H_24.size cz o_48.2 le ch x2 _ ho_58) (cwV 1 ht (gi_V tw_2_164 tw_2_165 tw_2_166 tw_1_12 tw_2_167) rfl rfl rfl (by decide +kernel) ⟨Nat.le_of_ble_eq_true rfl, Nat.le_of_ble_eq_true rfl⟩) (jv_sv hK hP hD hS hA hV [1, 2] rfl (by decide) rfl (va_recv hK hP (ci := 3) (q0 := 1) rfl rfl)) rfl rfl hl.1 rfl (lv_room (Nat.le_of_ble_eq_true rfl)) dd_E_takeTest_58 ⟨Nat.le_of_ble_eq_true rfl, Nat.le_of_ble_eq_true rfl⟩) hP hD hS hA [1, 2] [0, 3, 4, 5, 6, 7] rfl rfl (by decide) (by decide) (fun H_26 locs_27 hP hD hS => ?_)
      have hP : va_P (dC, dI) vwCl [(h0, .inr (4, [.ref h1, .ref h3, .int sg])), (h1, .inr (3, [.ref h2, .int cz, .int o_58.2, .int le])), (h2, .inl (cC, 3000, .inl ch)), (h3, .inr (0, [.ref h4, .ref h5, .ref h6, .ref h7, .int ct, .int lo, .int oc])), (h4, .inl (cI, 24, .inl kd)), (h5, .inl (cI, 24, .inl dp)), (h6, .inl (cI, 24, .inl su)), (h7, .inl (cL, 24, .inr (.inl nm)))] H_26 := hP.sub [0, 6, 7, 1, 2, 3, 4, 5] rfl
      have hD : va_D A [(h0, .inr (4, [.ref h1, .ref h3, .int sg])), (h1, .inr (3, [.ref h2, .int cz, .int o_58.2, .int le])), (h2, .inl (cC, 3000, .inl ch)), (h3, .inr (0, [.ref h4, .ref h5, .ref h6, .ref h7, .int ct, .int lo, .int oc])), (h4, .inl (cI, 24, .inl kd)), (h5, .inl (cI, 24, .inl dp)), (h6, .inl (cI, 24, .inl su)), (h7, .inl (cL, 24, .inr (.inl nm)))] := hD.sub [0, 6, 7, 1, 2, 3, 4, 5] (by decide) rfl
      refine lv_if_eq (tgt := 68) hx hb dd_E_takeTest_61 (by decide) (fun c_28 => ?_) (fun c_28 => ?_)
      · have hF := jv_t c_28 hF
        refine lv_iload_n hx hb dd_E_takeTest_68 rfl (lv_at hl 3 rfl) ?_
        exact bl69 o_58.2 ct lo oc kd dp su nm o_48.1 x1 hF H_26 locs_27 hP hD hS ls (lv_sub hl [2, 0] rfl)
      · have hF := jv_f c_28 hF
        refine lv_iload_n hx hb dd_E_takeTest_64 rfl (lv_at hl 5 rfl) ?_
        refine lv_goto (tgt := 69) hx hb dd_E_takeTest_65 (by decide) ?_
        exact bl69 o_58.2 ct lo oc kd dp su nm o_48.1 x3 hF H_26 locs_27 hP hD hS ls (lv_sub hl [2, 0] rfl)
    · have hF := jv_t c_23 hF
      refine lv_iconst (v := 0) hx hb dd_E_takeTest_42 (by decide) ?_
      subst hQ
      obtain rfl := Option.some.inj hF
      exact W.zret (v := 0) hx hb hr rfl (fun t ht hW => ⟨⟨0, (), rfl, rfl, by rw [ht]; exact hP, va_K.moved hW.alike hK, hD⟩, hS.F ht⟩) hS.2.2 dd_E_takeTest_43
set_option maxHeartbeats 40000000 in
set_option maxRecDepth 100000 in
theorem c_E_takeSuiteEnd (l : Launch) (dC : Nat → ClassId) (dI : Nat → Nat → Nat) (cI cL cC cZ : ClassId) (adK adV : Nat → Nat) (h0 h1 h2 h3 h4 h5 h6 h7 : Nat) (sz : Nat) (sg : Int32) (cz : Int32) (sp : Int32) (le : Int32) (ch : Nat → Int32) (ct : Int32) (lo : Int32) (oc : Int32) (kd : Nat → Int32) (dp : Nat → Int32) (su : Nat → Int32) (nm : Nat → Int64)  (out : Int32 × Int32 × Int32 × Int32 × (Nat → Int32)) (hF : fn_E_takeSuiteEnd le ch ct dp su nm sp lo oc kd = some out) : Met l yy_E_takeSuiteEnd ws_E_takeSuiteEnd { frames := 6, cells := 0, slots := 0, locals := 129 } (mS_ adK adV (dC, dI) (tk_ cI cL cC cZ) [(h0, .inr (4, [.ref h1, .ref h3, .int sg])), (h1, .inr (3, [.ref h2, .int cz, .int sp, .int le])), (h2, .inl (cC, 3000, .inl ch)), (h3, .inr (0, [.ref h4, .ref h5, .ref h6, .ref h7, .int ct, .int lo, .int oc])), (h4, .inl (cI, 24, .inl kd)), (h5, .inl (cI, 24, .inl dp)), (h6, .inl (cI, 24, .inl su)), (h7, .inl (cL, 24, .inr (.inl nm)))] sz [.ref h0]) (va_Qi (fun r (_ : Unit) => r = out.1) (mB_ (dC, dI) (tk_ cI cL cC cZ) [(h0, .inr (4, [.ref h1, .ref h3, .int sg])), (h1, .inr (3, [.ref h2, .int cz, .int out.2.1, .int le])), (h2, .inl (cC, 3000, .inl ch)), (h3, .inr (0, [.ref h4, .ref h5, .ref h6, .ref h7, .int ct, .int out.2.2.1, .int out.2.2.2.1])), (h4, .inl (cI, 24, .inl out.2.2.2.2)), (h5, .inl (cI, 24, .inl dp)), (h6, .inl (cI, 24, .inl su)), (h7, .inl (cL, 24, .inr (.inl nm)))] (va_A [(h0, .inr (4, [.ref h1, .ref h3, .int sg])), (h1, .inr (3, [.ref h2, .int cz, .int sp, .int le])), (h2, .inl (cC, 3000, .inl ch)), (h3, .inr (0, [.ref h4, .ref h5, .ref h6, .ref h7, .int ct, .int lo, .int oc])), (h4, .inl (cI, 24, .inl kd)), (h5, .inl (cI, 24, .inl dp)), (h6, .inl (cI, 24, .inl su)), (h7, .inl (cL, 24, .inr (.inl nm)))] sz)) (va_A [(h0, .inr (4, [.ref h1, .ref h3, .int sg])), (h1, .inr (3, [.ref h2, .int cz, .int sp, .int le])), (h2, .inl (cC, 3000, .inl ch)), (h3, .inr (0, [.ref h4, .ref h5, .ref h6, .ref h7, .int ct, .int lo, .int oc])), (h4, .inl (cI, 24, .inl kd)), (h5, .inl (cI, 24, .inl dp)), (h6, .inl (cI, 24, .inl su)), (h7, .inl (cL, 24, .inr (.inl nm)))] sz)) 0 0 (va_A [(h0, .inr (4, [.ref h1, .ref h3, .int sg])), (h1, .inr (3, [.ref h2, .int cz, .int sp, .int le])), (h2, .inl (cC, 3000, .inl ch)), (h3, .inr (0, [.ref h4, .ref h5, .ref h6, .ref h7, .int ct, .int lo, .int oc])), (h4, .inl (cI, 24, .inl kd)), (h5, .inl (cI, 24, .inl dp)), (h6, .inl (cI, 24, .inl su)), (h7, .inl (cL, 24, .inr (.inl nm)))] sz) := by
  refine Met.ofW (cc := cc_E_takeSuiteEnd) (maxL := 2) (ret := (some .boolean)) (by decide) rfl ?_
  intro p e s m args below meth c s₁ B hml hv
  obtain ⟨hargs, hsz, hP, hK, hD0, hV⟩ := hv
  have hx := B.exec
  have hb := B.bytes
  have hr := B.returns
  have hts := atoms_spec (ws := ws_E_takeSuiteEnd) B.pre
  have ht : ∀ w ∈ TB_, w.before args s = true := fun w h => hts w (List.mem_cons_of_mem _ h)
  have hown : s.vm.findClass cn_E = some m.cls := findClass_of_methodNamed B.named
  have hlocks := B.notSynchronized
  subst hsz
  have hD := hD0.self (sz := s.heap.size)
  generalize hAe : va_A [(h0, .inr (4, [.ref h1, .ref h3, .int sg])), (h1, .inr (3, [.ref h2, .int cz, .int sp, .int le])), (h2, .inl (cC, 3000, .inl ch)), (h3, .inr (0, [.ref h4, .ref h5, .ref h6, .ref h7, .int ct, .int lo, .int oc])), (h4, .inl (cI, 24, .inl kd)), (h5, .inl (cI, 24, .inl dp)), (h6, .inl (cI, 24, .inl su)), (h7, .inl (cL, 24, .inr (.inl nm)))] s.heap.size = A at hD ⊢ hV
  have hA : ∀ q : Nat, s.heap.size ≤ q → A q := fun q h => by rw [← hAe]; exact Or.inr h
  have hS : va_S A s.heap s.heap [] := va_S.rf
  have hP : va_P (dC, dI) vwCl [(h0, .inr (4, [.ref h1, .ref h3, .int sg])), (h1, .inr (3, [.ref h2, .int cz, .int sp, .int le])), (h2, .inl (cC, 3000, .inl ch)), (h3, .inr (0, [.ref h4, .ref h5, .ref h6, .ref h7, .int ct, .int lo, .int oc])), (h4, .inl (cI, 24, .inl kd)), (h5, .inl (cI, 24, .inl dp)), (h6, .inl (cI, 24, .inl su)), (h7, .inl (cL, 24, .inr (.inl nm)))] s.heap := hP
  have hl := lv_entry [.ref h0] (n := 2) (Nat.le_of_ble_eq_true rfl)
  have he : entryFrame m args 2 = _ := (congrArg (fun a => entryFrame m a 2) hargs).trans (lg_entry_eq m [.ref h0] 2)
  rw [he]
  generalize (lg_sl [.ref h0] ++ List.replicate (2 - (lg_sl [.ref h0]).length) Slot.unset).toArray = ls at hl ⊢
  have hl : lv_has ls 2 [(0, .ref h0)] := hl
  generalize hQ : MQ below _ args s _ _ _ = Q
  have bl57 : ∀ (sp : Int32) (lo : Int32) (oc : Int32) (kd : Nat → Int32) (x1 : Int32) (y1 : Nat), fb_E_takeSuiteEnd_57 le ch ct dp su nm  sp lo oc kd x1 y1 = some out → ∀ (H : Heap) (locs : List Loc), va_P (dC, dI) vwCl [(h0, .inr (4, [.ref h1, .ref h3, .int sg])), (h1, .inr (3, [.ref h2, .int cz, .int sp, .int le])), (h2, .inl (cC, 3000, .inl ch)), (h3, .inr (0, [.ref h4, .ref h5, .ref h6, .ref h7, .int ct, .int lo, .int oc])), (h4, .inl (cI, 24, .inl kd)), (h5, .inl (cI, 24, .inl dp)), (h6, .inl (cI, 24, .inl su)), (h7, .inl (cL, 24, .inr (.inl nm)))] H → va_D A [(h0, .inr (4, [.ref h1, .ref h3, .int sg])), (h1, .inr (3, [.ref h2, .int cz, .int sp, .int le])), (h2, .inl (cC, 3000, .inl ch)), (h3, .inr (0, [.ref h4, .ref h5, .ref h6, .ref h7, .int ct, .int lo, .int oc])), (h4, .inl (cI, 24, .inl kd)), (h5, .inl (cI, 24, .inl dp)), (h6, .inl (cI, 24, .inl su)), (h7, .inl (cL, 24, .inr (.inl nm)))] → va_S A s.heap H locs → ∀ ls : Array Slot, lv_has ls 2 [(0, .ref h0), (1, .int x1)] → W p l e (headSpec ws_E_takeSuiteEnd { frames := 6, cells := 0, slots := 0, locals := 129 }).room s m args below meth c H locs 0 0 Q (F0 m 57 ls [.ref (adK y1), .ref h1]) := by
    intro sp lo oc kd x1 y1 hF H locs hP hD hS ls hl
    unfold fb_E_takeSuiteEnd_57 at hF
    obtain ⟨o_57, ho_57, hF⟩ := jv_bi hF
    refine jv_mi (wr := [(h0, .inr (4, [.ref h1, .ref h3, .int sg])), (h3, .inr (0, [.ref h4, .ref h5, .ref h6, .ref h7, .int ct, .int lo, .int oc])), (h4, .inl (cI, 24, .inl kd)), (h5, .inl (cI, 24, .inl dp)), (h6, .inl (cI, 24, .inl su)), (h7, .inl (cL, 24, .inr (.inl nm)))]) (w1 := [(h1, .inr (3, [.ref h2, .int cz, .int o_57.2, .int le])), (h2, .inl (cC, 3000, .inl ch))]) (va_runV (C := cn_C) (As := [.ref (adK y1)]) (rest := []) ⟨hx, hb, hml, hown, ht⟩ (c_C_skipText l dC dI cI cL cC cZ adK adV h1 h2 H.size cz sp le ch y1 _ ho_57) (cwV 1 ht (gi_V tw_2_164 tw_2_165 tw_2_166 tw_1_12 tw_2_167) rfl rfl rfl (by decide +kernel) ⟨Nat.le_of_ble_eq_true rfl, Nat.le_of_ble_eq_true rfl⟩) (jv_sv hK hP hD hS hA hV [1, 2] rfl (by decide) rfl (va_recv hK hP (ci := 3) (q0 := 1) rfl rfl)) rfl rfl hl.1 rfl (lv_room (Nat.le_of_ble_eq_true rfl)) dd_E_takeSuiteEnd_57 ⟨Nat.le_of_ble_eq_true rfl, Nat.le_of_ble_eq_true rfl⟩) hP hD hS hA [1, 2] [0, 3, 4, 5, 6, 7] rfl rfl (by decide) (by decide) (fun H_19 locs_20 hP hD hS => ?_)
    have hP : va_P (dC, dI) vwCl [(h0, .inr (4, [.ref h1, .ref h3, .int sg])), (h1, .inr (3, [.ref h2, .int cz, .int o_57.2, .int le])), (h2, .inl (cC, 3000, .inl ch)), (h3, .inr (0, [.ref h4, .ref h5, .ref h6, .ref h7, .int ct, .int lo, .int oc])), (h4, .inl (cI, 24, .inl kd)), (h5, .inl (cI, 24, .inl dp)), (h6, .inl (cI, 24, .inl su)), (h7, .inl (cL, 24, .inr (.inl nm)))] H_19 := hP.sub [0, 6, 7, 1, 2, 3, 4, 5] rfl
    have hD : va_D A [(h0, .inr (4, [.ref h1, .ref h3, .int sg])), (h1, .inr (3, [.ref h2, .int cz, .int o_57.2, .int le])), (h2, .inl (cC, 3000, .inl ch)), (h3, .inr (0, [.ref h4, .ref h5, .ref h6, .ref h7, .int ct, .int lo, .int oc])), (h4, .inl (cI, 24, .inl kd)), (h5, .inl (cI, 24, .inl dp)), (h6, .inl (cI, 24, .inl su)), (h7, .inl (cL, 24, .inr (.inl nm)))] := hD.sub [0, 6, 7, 1, 2, 3, 4, 5] (by decide) rfl
    refine lv_if_eq (tgt := 116) hx hb dd_E_takeSuiteEnd_60 (by decide) (fun c_21 => ?_) (fun c_21 => ?_)
    · have hF := jv_t c_21 hF
      refine lv_iconst (v := 0) hx hb dd_E_takeSuiteEnd_116 (by decide) ?_
      subst hQ
      obtain rfl := Option.some.inj hF
      exact W.zret (v := 0) hx hb hr rfl (fun t ht hW => ⟨⟨0, (), rfl, rfl, by rw [ht]; exact hP, va_K.moved hW.alike hK, hD⟩, hS.F ht⟩) hS.2.2 dd_E_takeSuiteEnd_117
    · have hF := jv_f c_21 hF
      refine lv_aload_n hx hb dd_E_takeSuiteEnd_63 rfl (lv_at hl 0 rfl) ?_
      refine va_get (D := (dC, dI)) (ci := 4) (v := .ref h1) (C := cn_E) (T := tt_E) (N := 3) hx hb ht in_E hown hK hP 0 rfl rfl 0 (by decide) (ht _ tw_2_136) (fun _ h9 => h9) rfl dd_E_takeSuiteEnd_64 ?_
      refine lv_aload_n hx hb dd_E_takeSuiteEnd_67 rfl (lv_at hl 0 rfl) ?_
      refine va_get (D := (dC, dI)) (ci := 4) (v := .ref h3) (C := cn_E) (T := tt_E) (N := 3) hx hb ht in_E hown hK hP 0 rfl rfl 1 (by decide) (ht _ tw_2_137) (fun _ h9 => h9) rfl dd_E_takeSuiteEnd_68 ?_
      refine lv_iload_n hx hb dd_E_takeSuiteEnd_71 rfl (lv_at hl 1 rfl) ?_
      obtain ⟨o_72, ho_72, hF⟩ := jv_bi hF
      refine jv_ci (va_runV (C := cn_R) (As := [.int x1]) (rest := [.ref h1]) ⟨hx, hb, hml, hown, ht⟩ (c_R_placeOf l dC dI cI cL cC cZ h3 h4 h5 h6 h7 H_19.size ct lo oc kd dp su nm x1 _ ho_72) (cwV 1 ht (gi_V tw_2_220 tw_2_59 tw_2_60 tw_1_3 tw_2_61) rfl rfl rfl (by decide +kernel) ⟨Nat.le_of_ble_eq_true rfl, Nat.le_of_ble_eq_true rfl⟩) (jv_pv hK hP hD [3, 4, 5, 6, 7] rfl (by decide) rfl (va_recv hK hP (ci := 0) (q0 := 3) rfl rfl)) rfl rfl hl.1 rfl (lv_room (Nat.le_of_ble_eq_true rfl)) dd_E_takeSuiteEnd_72 ⟨Nat.le_of_ble_eq_true rfl, Nat.le_of_ble_eq_true rfl⟩) ?_
      obtain ⟨o_75, ho_75, hF⟩ := jv_bi hF
      refine jv_mi (wr := [(h0, .inr (4, [.ref h1, .ref h3, .int sg])), (h3, .inr (0, [.ref h4, .ref h5, .ref h6, .ref h7, .int ct, .int lo, .int oc])), (h4, .inl (cI, 24, .inl kd)), (h5, .inl (cI, 24, .inl dp)), (h6, .inl (cI, 24, .inl su)), (h7, .inl (cL, 24, .inr (.inl nm)))]) (w1 := [(h1, .inr (3, [.ref h2, .int cz, .int o_75.2, .int le])), (h2, .inl (cC, 3000, .inl ch))]) (va_runV (C := cn_C) (As := [.int o_72]) (rest := []) ⟨hx, hb, hml, hown, ht⟩ (c_C_skipNumber l dC dI cI cL cC cZ h1 h2 H_19.size cz o_57.2 le ch o_72 _ ho_75) (cwV 1 ht (gi_V tw_2_185 tw_2_186 tw_2_187 tw_1_12 tw_2_188) rfl rfl rfl (by decide +kernel) ⟨Nat.le_of_ble_eq_true rfl, Nat.le_of_ble_eq_true rfl⟩) (jv_pv hK hP hD [1, 2] rfl (by decide) rfl (va_recv hK hP (ci := 3) (q0 := 1) rfl rfl)) rfl rfl hl.1 rfl (lv_room (Nat.le_of_ble_eq_true rfl)) dd_E_takeSuiteEnd_75 ⟨Nat.le_of_ble_eq_true rfl, Nat.le_of_ble_eq_true rfl⟩) hP hD hS hA [1, 2] [0, 3, 4, 5, 6, 7] rfl rfl (by decide) (by decide) (fun H_22 locs_23 hP hD hS => ?_)
      have hP : va_P (dC, dI) vwCl [(h0, .inr (4, [.ref h1, .ref h3, .int sg])), (h1, .inr (3, [.ref h2, .int cz, .int o_75.2, .int le])), (h2, .inl (cC, 3000, .inl ch)), (h3, .inr (0, [.ref h4, .ref h5, .ref h6, .ref h7, .int ct, .int lo, .int oc])), (h4, .inl (cI, 24, .inl kd)), (h5, .inl (cI, 24, .inl dp)), (h6, .inl (cI, 24, .inl su)), (h7, .inl (cL, 24, .inr (.inl nm)))] H_22 := hP.sub [0, 6, 7, 1, 2, 3, 4, 5] rfl
      have hD : va_D A [(h0, .inr (4, [.ref h1, .ref h3, .int sg])), (h1, .inr (3, [.ref h2, .int cz, .int o_75.2, .int le])), (h2, .inl (cC, 3000, .inl ch)), (h3, .inr (0, [.ref h4, .ref h5, .ref h6, .ref h7, .int ct, .int lo, .int oc])), (h4, .inl (cI, 24, .inl kd)), (h5, .inl (cI, 24, .inl dp)), (h6, .inl (cI, 24, .inl su)), (h7, .inl (cL, 24, .inr (.inl nm)))] := hD.sub [0, 6, 7, 1, 2, 3, 4, 5] (by decide) rfl
      refine lv_if_eq (tgt := 116) hx hb dd_E_takeSuiteEnd_78 (by decide) (fun c_24 => ?_) (fun c_24 => ?_)
      · have hF := jv_t c_24 hF
        refine lv_iconst (v := 0) hx hb dd_E_takeSuiteEnd_116 (by decide) ?_
        subst hQ
        obtain rfl := Option.some.inj hF
        exact W.zret (v := 0) hx hb hr rfl (fun t ht hW => ⟨⟨0, (), rfl, rfl, by rw [ht]; exact hP, va_K.moved hW.alike hK, hD⟩, hS.F ht⟩) hS.2.2 dd_E_takeSuiteEnd_117
      · have hF := jv_f c_24 hF
        refine lv_aload_n hx hb dd_E_takeSuiteEnd_81 rfl (lv_at hl 0 rfl) ?_
        refine va_get (D := (dC, dI)) (ci := 4) (v := .ref h1) (C := cn_E) (T := tt_E) (N := 3) hx hb ht in_E hown hK hP 0 rfl rfl 0 (by decide) (ht _ tw_2_136) (fun _ h9 => h9) rfl dd_E_takeSuiteEnd_82 ?_
        refine va_ldcS hx hb hown (sk_R (k := 9) hV rfl) dd_E_takeSuiteEnd_85 ?_
        obtain ⟨o_87, ho_87, hF⟩ := jv_bi hF
        refine jv_mi (wr := [(h0, .inr (4, [.ref h1, .ref h3, .int sg])), (h3, .inr (0, [.ref h4, .ref h5, .ref h6, .ref h7, .int ct, .int lo, .int oc])), (h4, .inl (cI, 24, .inl kd)), (h5, .inl (cI, 24, .inl dp)), (h6, .inl (cI, 24, .inl su)), (h7, .inl (cL, 24, .inr (.inl nm)))]) (w1 := [(h1, .inr (3, [.ref h2, .int cz, .int o_87.2, .int le])), (h2, .inl (cC, 3000, .inl ch))]) (va_runV (C := cn_C) (As := [.ref (adK 5)]) (rest := []) ⟨hx, hb, hml, hown, ht⟩ (c_C_skipText l dC dI cI cL cC cZ adK adV h1 h2 H_22.size cz o_75.2 le ch 5 _ ho_87) (cwV 1 ht (gi_V tw_2_164 tw_2_165 tw_2_166 tw_1_12 tw_2_167) rfl rfl rfl (by decide +kernel) ⟨Nat.le_of_ble_eq_true rfl, Nat.le_of_ble_eq_true rfl⟩) (jv_sv hK hP hD hS hA hV [1, 2] rfl (by decide) rfl (va_recv hK hP (ci := 3) (q0 := 1) rfl rfl)) rfl rfl hl.1 rfl (lv_room (Nat.le_of_ble_eq_true rfl)) dd_E_takeSuiteEnd_87 ⟨Nat.le_of_ble_eq_true rfl, Nat.le_of_ble_eq_true rfl⟩) hP hD hS hA [1, 2] [0, 3, 4, 5, 6, 7] rfl rfl (by decide) (by decide) (fun H_25 locs_26 hP hD hS => ?_)
        have hP : va_P (dC, dI) vwCl [(h0, .inr (4, [.ref h1, .ref h3, .int sg])), (h1, .inr (3, [.ref h2, .int cz, .int o_87.2, .int le])), (h2, .inl (cC, 3000, .inl ch)), (h3, .inr (0, [.ref h4, .ref h5, .ref h6, .ref h7, .int ct, .int lo, .int oc])), (h4, .inl (cI, 24, .inl kd)), (h5, .inl (cI, 24, .inl dp)), (h6, .inl (cI, 24, .inl su)), (h7, .inl (cL, 24, .inr (.inl nm)))] H_25 := hP.sub [0, 6, 7, 1, 2, 3, 4, 5] rfl
        have hD : va_D A [(h0, .inr (4, [.ref h1, .ref h3, .int sg])), (h1, .inr (3, [.ref h2, .int cz, .int o_87.2, .int le])), (h2, .inl (cC, 3000, .inl ch)), (h3, .inr (0, [.ref h4, .ref h5, .ref h6, .ref h7, .int ct, .int lo, .int oc])), (h4, .inl (cI, 24, .inl kd)), (h5, .inl (cI, 24, .inl dp)), (h6, .inl (cI, 24, .inl su)), (h7, .inl (cL, 24, .inr (.inl nm)))] := hD.sub [0, 6, 7, 1, 2, 3, 4, 5] (by decide) rfl
        refine lv_if_eq (tgt := 116) hx hb dd_E_takeSuiteEnd_90 (by decide) (fun c_27 => ?_) (fun c_27 => ?_)
        · have hF := jv_t c_27 hF
          refine lv_iconst (v := 0) hx hb dd_E_takeSuiteEnd_116 (by decide) ?_
          subst hQ
          obtain rfl := Option.some.inj hF
          exact W.zret (v := 0) hx hb hr rfl (fun t ht hW => ⟨⟨0, (), rfl, rfl, by rw [ht]; exact hP, va_K.moved hW.alike hK, hD⟩, hS.F ht⟩) hS.2.2 dd_E_takeSuiteEnd_117
        · have hF := jv_f c_27 hF
          refine lv_aload_n hx hb dd_E_takeSuiteEnd_93 rfl (lv_at hl 0 rfl) ?_
          refine va_get (D := (dC, dI)) (ci := 4) (v := .ref h1) (C := cn_E) (T := tt_E) (N := 3) hx hb ht in_E hown hK hP 0 rfl rfl 0 (by decide) (ht _ tw_2_136) (fun _ h9 => h9) rfl dd_E_takeSuiteEnd_94 ?_
          obtain ⟨o_97, ho_97, hF⟩ := jv_bi hF
          refine jv_ml (wr := [(h0, .inr (4, [.ref h1, .ref h3, .int sg])), (h3, .inr (0, [.ref h4, .ref h5, .ref h6, .ref h7, .int ct, .int lo, .int oc])), (h4, .inl (cI, 24, .inl kd)), (h5, .inl (cI, 24, .inl dp)), (h6, .inl (cI, 24, .inl su)), (h7, .inl (cL, 24, .inr (.inl nm)))]) (w1 := [(h1, .inr (3, [.ref h2, .int cz, .int o_97.2, .int le])), (h2, .inl (cC, 3000, .inl ch))]) (va_runV (C := cn_C) (As := []) (rest := []) ⟨hx, hb, hml, hown, ht⟩ (c_C_takeName l dC dI cI cL cC cZ h1 h2 H_25.size cz o_87.2 le ch _ ho_97) (cwV 0 ht (gi_V tw_2_194 tw_2_195 tw_2_196 tw_1_12 tw_2_197) rfl rfl rfl (by decide +kernel) ⟨Nat.le_of_ble_eq_true rfl, Nat.le_of_ble_eq_true rfl⟩) (jv_pv hK hP hD [1, 2] rfl (by decide) rfl (va_recv hK hP (ci := 3) (q0 := 1) rfl rfl)) rfl rfl hl.1 rfl (lv_room (Nat.le_of_ble_eq_true rfl)) dd_E_takeSuiteEnd_97 ⟨Nat.le_of_ble_eq_true rfl, Nat.le_of_ble_eq_true rfl⟩) hP hD hS hA [1, 2] [0, 3, 4, 5, 6, 7] rfl rfl (by decide) (by decide) (fun H_28 locs_29 hP hD hS => ?_)
          have hP : va_P (dC, dI) vwCl [(h0, .inr (4, [.ref h1, .ref h3, .int sg])), (h1, .inr (3, [.ref h2, .int cz, .int o_97.2, .int le])), (h2, .inl (cC, 3000, .inl ch)), (h3, .inr (0, [.ref h4, .ref h5, .ref h6, .ref h7, .int ct, .int lo, .int oc])), (h4, .inl (cI, 24, .inl kd)), (h5, .inl (cI, 24, .inl dp)), (h6, .inl (cI, 24, .inl su)), (h7, .inl (cL, 24, .inr (.inl nm)))] H_28 := hP.sub [0, 6, 7, 1, 2, 3, 4, 5] rfl
          have hD : va_D A [(h0, .inr (4, [.ref h1, .ref h3, .int sg])), (h1, .inr (3, [.ref h2, .int cz, .int o_97.2, .int le])), (h2, .inl (cC, 3000, .inl ch)), (h3, .inr (0, [.ref h4, .ref h5, .ref h6, .ref h7, .int ct, .int lo, .int oc])), (h4, .inl (cI, 24, .inl kd)), (h5, .inl (cI, 24, .inl dp)), (h6, .inl (cI, 24, .inl su)), (h7, .inl (cL, 24, .inr (.inl nm)))] := hD.sub [0, 6, 7, 1, 2, 3, 4, 5] (by decide) rfl
          refine lv_aload_n hx hb dd_E_takeSuiteEnd_100 rfl (lv_at hl 0 rfl) ?_
          refine va_get (D := (dC, dI)) (ci := 4) (v := .ref h3) (C := cn_E) (T := tt_E) (N := 3) hx hb ht in_E hown hK hP 0 rfl rfl 1 (by decide) (ht _ tw_2_137) (fun _ h9 => h9) rfl dd_E_takeSuiteEnd_101 ?_
          refine lv_iload_n hx hb dd_E_takeSuiteEnd_104 rfl (lv_at hl 1 rfl) ?_
          obtain ⟨o_105, ho_105, hF⟩ := jv_bi hF
          refine jv_cl (va_runV (C := cn_R) (As := [.int x1]) (rest := [.long o_97.1]) ⟨hx, hb, hml, hown, ht⟩ (c_R_nameOf l dC dI cI cL cC cZ h3 h4 h5 h6 h7 H_28.size ct lo oc kd dp su nm x1 _ ho_105) (cwV 1 ht (gi_V tw_2_221 tw_1_164 tw_1_165 tw_1_3 tw_1_166) rfl rfl rfl (by decide +kernel) ⟨Nat.le_of_ble_eq_true rfl, Nat.le_of_ble_eq_true rfl⟩) (jv_pv hK hP hD [3, 4, 5, 6, 7] rfl (by decide) rfl (va_recv hK hP (ci := 0) (q0 := 3) rfl rfl)) rfl rfl hl.1 rfl (lv_room (Nat.le_of_ble_eq_true rfl)) dd_E_takeSuiteEnd_105 ⟨Nat.le_of_ble_eq_true rfl, Nat.le_of_ble_eq_true rfl⟩) ?_
          refine W.lcmp hx hb dd_E_takeSuiteEnd_108 ?_
          refine lv_if_ne (tgt := 116) hx hb dd_E_takeSuiteEnd_109 (by decide) (fun c_30 => ?_) (fun c_30 => ?_)
          · have hF := jv_f c_30 hF
            refine lv_iconst (v := 0) hx hb dd_E_takeSuiteEnd_116 (by decide) ?_
            subst hQ
            obtain rfl := Option.some.inj hF
            exact W.zret (v := 0) hx hb hr rfl (fun t ht hW => ⟨⟨0, (), rfl, rfl, by rw [ht]; exact hP, va_K.moved hW.alike hK, hD⟩, hS.F ht⟩) hS.2.2 dd_E_takeSuiteEnd_117
          · have hF := jv_t c_30 hF
            refine lv_iconst (v := 1) hx hb dd_E_takeSuiteEnd_112 (by decide) ?_
            refine lv_goto (tgt := 117) hx hb dd_E_takeSuiteEnd_113 (by decide) ?_
            subst hQ
            obtain rfl := Option.some.inj hF
            exact W.zret (v := 1) hx hb hr rfl (fun t ht hW => ⟨⟨1, (), rfl, rfl, by rw [ht]; exact hP, va_K.moved hW.alike hK, hD⟩, hS.F ht⟩) hS.2.2 dd_E_takeSuiteEnd_117
  unfold fn_E_takeSuiteEnd at hF
  refine lv_aload_n hx hb dd_E_takeSuiteEnd_0 rfl (lv_at hl 0 rfl) ?_
  refine va_get (D := (dC, dI)) (ci := 4) (v := .ref h3) (C := cn_E) (T := tt_E) (N := 3) hx hb ht in_E hown hK hP 0 rfl rfl 1 (by decide) (ht _ tw_2_137) (fun _ h9 => h9) rfl dd_E_takeSuiteEnd_1 ?_
  obtain ⟨o_4, ho_4, hF⟩ := jv_bi hF
  refine jv_ci (va_runV (C := cn_R) (As := []) (rest := []) ⟨hx, hb, hml, hown, ht⟩ (c_R_innermost l dC dI cI cL cC cZ h3 h4 h5 h6 h7 s.heap.size ct lo oc kd dp su nm _ ho_4) (cwV 0 ht (gi_V tw_2_183 tw_2_86 tw_2_87 tw_1_3 tw_2_88) rfl rfl rfl (by decide +kernel) ⟨Nat.le_of_ble_eq_true rfl, Nat.le_of_ble_eq_true rfl⟩) (jv_pv hK hP hD [3, 4, 5, 6, 7] rfl (by decide) rfl (va_recv hK hP (ci := 0) (q0 := 3) rfl rfl)) rfl rfl hl.1 rfl (lv_room (Nat.le_of_ble_eq_true rfl)) dd_E_takeSuiteEnd_4 ⟨Nat.le_of_ble_eq_true rfl, Nat.le_of_ble_eq_true rfl⟩) ?_
  refine lv_istore_n (lv' := [(1, .int o_4), (0, .ref h0)]) hx hb dd_E_takeSuiteEnd_7 rfl hl (by decide) rfl (fun ls hl => ?_)
  refine lv_aload_n hx hb dd_E_takeSuiteEnd_8 rfl (lv_at hl 1 rfl) ?_
  refine va_get (D := (dC, dI)) (ci := 4) (v := .ref h3) (C := cn_E) (T := tt_E) (N := 3) hx hb ht in_E hown hK hP 0 rfl rfl 1 (by decide) (ht _ tw_2_137) (fun _ h9 => h9) rfl dd_E_takeSuiteEnd_9 ?_
  obtain ⟨o_12, ho_12, hF⟩ := jv_bi hF
  refine jv_mi (wr := [(h0, .inr (4, [.ref h1, .ref h3, .int sg])), (h1, .inr (3, [.ref h2, .int cz, .int sp, .int le])), (h2, .inl (cC, 3000, .inl ch))]) (w1 := [(h3, .inr (0, [.ref h4, .ref h5, .ref h6, .ref h7, .int ct, .int o_12.2.1, .int o_12.2.2.1])), (h4, .inl (cI, 24, .inl o_12.2.2.2)), (h5, .inl (cI, 24, .inl dp)), (h6, .inl (cI, 24, .inl su)), (h7, .inl (cL, 24, .inr (.inl nm)))]) (va_runV (C := cn_R) (As := []) (rest := []) ⟨hx, hb, hml, hown, ht⟩ (c_R_closeLastOpen l dC dI cI cL cC cZ h3 h4 h5 h6 h7 s.heap.size ct lo oc kd dp su nm _ ho_12) (cwV 0 ht (gi_V tw_2_217 tw_1_111 tw_1_112 tw_1_3 tw_1_113) rfl rfl rfl (by decide +kernel) ⟨Nat.le_of_ble_eq_true rfl, Nat.le_of_ble_eq_true rfl⟩) (jv_pv hK hP hD [3, 4, 5, 6, 7] rfl (by decide) rfl (va_recv hK hP (ci := 0) (q0 := 3) rfl rfl)) rfl rfl hl.1 rfl (lv_room (Nat.le_of_ble_eq_true rfl)) dd_E_takeSuiteEnd_12 ⟨Nat.le_of_ble_eq_true rfl, Nat.le_of_ble_eq_true rfl⟩) hP hD hS hA [3, 4, 5, 6, 7] [0, 1, 2] rfl rfl (by decide) (by decide) (fun H_31 locs_32 hP hD hS => ?_)
  have hP : va_P (dC, dI) vwCl [(h0, .inr (4, [.ref h1, .ref h3, .int sg])), (h1, .inr (3, [.ref h2, .int cz, .int sp, .int le])), (h2, .inl (cC, 3000, .inl ch)), (h3, .inr (0, [.ref h4, .ref h5, .ref h6, .ref h7, .int ct, .int o_12.2.1, .int o_12.2.2.1])), (h4, .inl (cI, 24, .inl o_12.2.2.2)), (h5, .inl (cI, 24, .inl dp)), (h6, .inl (cI, 24, .inl su)), (h7, .inl (cL, 24, .inr (.inl nm)))] H_31 := hP.sub [0, 1, 2, 3, 4, 5, 6, 7] rfl
  have hD : va_D A [(h0, .inr (4, [.ref h1, .ref h3, .int sg])), (h1, .inr (3, [.ref h2, .int cz, .int sp, .int le])), (h2, .inl (cC, 3000, .inl ch)), (h3, .inr (0, [.ref h4, .ref h5, .ref h6, .ref h7, .int ct, .int o_12.2.1, .int o_12.2.2.1])), (h4, .inl (cI, 24, .inl o_12.2.2.2)), (h5, .inl (cI, 24, .inl dp)), (h6, .inl (cI, 24, .inl su)), (h7, .inl (cL, 24, .inr (.inl nm)))] := hD.sub [0, 1, 2, 3, 4, 5, 6, 7] (by decide) rfl
  refine lv_pop hx hb dd_E_takeSuiteEnd_15 rfl ?_
  refine lv_aload_n hx hb dd_E_takeSuiteEnd_16 rfl (lv_at hl 1 rfl) ?_
  refine va_get (D := (dC, dI)) (ci := 4) (v := .ref h1) (C := cn_E) (T := tt_E) (N := 3) hx hb ht in_E hown hK hP 0 rfl rfl 0 (by decide) (ht _ tw_2_136) (fun _ h9 => h9) rfl dd_E_takeSuiteEnd_17 ?_
  refine lv_aload_n hx hb dd_E_takeSuiteEnd_20 rfl (lv_at hl 1 rfl) ?_
  refine va_get (D := (dC, dI)) (ci := 4) (v := .ref h3) (C := cn_E) (T := tt_E) (N := 3) hx hb ht in_E hown hK hP 0 rfl rfl 1 (by decide) (ht _ tw_2_137) (fun _ h9 => h9) rfl dd_E_takeSuiteEnd_21 ?_
  refine lv_iload_n hx hb dd_E_takeSuiteEnd_24 rfl (lv_at hl 0 rfl) ?_
  obtain ⟨o_25, ho_25, hF⟩ := jv_bi hF
  refine jv_ci (va_runV (C := cn_R) (As := [.int o_4]) (rest := [.ref h1]) ⟨hx, hb, hml, hown, ht⟩ (c_R_depthOf l dC dI cI cL cC cZ h3 h4 h5 h6 h7 H_31.size ct o_12.2.1 o_12.2.2.1 o_12.2.2.2 dp su nm o_4 _ ho_25) (cwV 1 ht (gi_V tw_2_218 tw_1_156 tw_1_157 tw_1_3 tw_1_158) rfl rfl rfl (by decide +kernel) ⟨Nat.le_of_ble_eq_true rfl, Nat.le_of_ble_eq_true rfl⟩) (jv_pv hK hP hD [3, 4, 5, 6, 7] rfl (by decide) rfl (va_recv hK hP (ci := 0) (q0 := 3) rfl rfl)) rfl rfl hl.1 rfl (lv_room (Nat.le_of_ble_eq_true rfl)) dd_E_takeSuiteEnd_25 ⟨Nat.le_of_ble_eq_true rfl, Nat.le_of_ble_eq_true rfl⟩) ?_
  obtain ⟨o_28, ho_28, hF⟩ := jv_bi hF
  refine jv_mi (wr := [(h0, .inr (4, [.ref h1, .ref h3, .int sg])), (h3, .inr (0, [.ref h4, .ref h5, .ref h6, .ref h7, .int ct, .int o_12.2.1, .int o_12.2.2.1])), (h4, .inl (cI, 24, .inl o_12.2.2.2)), (h5, .inl (cI, 24, .inl dp)), (h6, .inl (cI, 24, .inl su)), (h7, .inl (cL, 24, .inr (.inl nm)))]) (w1 := [(h1, .inr (3, [.ref h2, .int cz, .int o_28.2, .int le])), (h2, .inl (cC, 3000, .inl ch))]) (va_runV (C := cn_C) (As := [.int o_25]) (rest := []) ⟨hx, hb, hml, hown, ht⟩ (c_C_skipIndent l dC dI cI cL cC cZ adK adV h1 h2 H_31.size cz sp le ch o_25 _ ho_28) (cwV 1 ht (gi_V tw_2_176 tw_2_177 tw_2_178 tw_1_12 tw_2_179) rfl rfl rfl (by decide +kernel) ⟨Nat.le_of_ble_eq_true rfl, Nat.le_of_ble_eq_true rfl⟩) (jv_sv hK hP hD hS hA hV [1, 2] rfl (by decide) rfl (va_recv hK hP (ci := 3) (q0 := 1) rfl rfl)) rfl rfl hl.1 rfl (lv_room (Nat.le_of_ble_eq_true rfl)) dd_E_takeSuiteEnd_28 ⟨Nat.le_of_ble_eq_true rfl, Nat.le_of_ble_eq_true rfl⟩) hP hD hS hA [1, 2] [0, 3, 4, 5, 6, 7] rfl rfl (by decide) (by decide) (fun H_33 locs_34 hP hD hS => ?_)
  have hP : va_P (dC, dI) vwCl [(h0, .inr (4, [.ref h1, .ref h3, .int sg])), (h1, .inr (3, [.ref h2, .int cz, .int o_28.2, .int le])), (h2, .inl (cC, 3000, .inl ch)), (h3, .inr (0, [.ref h4, .ref h5, .ref h6, .ref h7, .int ct, .int o_12.2.1, .int o_12.2.2.1])), (h4, .inl (cI, 24, .inl o_12.2.2.2)), (h5, .inl (cI, 24, .inl dp)), (h6, .inl (cI, 24, .inl su)), (h7, .inl (cL, 24, .inr (.inl nm)))] H_33 := hP.sub [0, 6, 7, 1, 2, 3, 4, 5] rfl
  have hD : va_D A [(h0, .inr (4, [.ref h1, .ref h3, .int sg])), (h1, .inr (3, [.ref h2, .int cz, .int o_28.2, .int le])), (h2, .inl (cC, 3000, .inl ch)), (h3, .inr (0, [.ref h4, .ref h5, .ref h6, .ref h7, .int ct, .int o_12.2.1, .int o_12.2.2.1])), (h4, .inl (cI, 24, .inl o_12.2.2.2)), (h5, .inl (cI, 24, .inl dp)), (h6, .inl (cI, 24, .inl su)), (h7, .inl (cL, 24, .inr (.inl nm)))] := hD.sub [0, 6, 7, 1, 2, 3, 4, 5] (by decide) rfl
  refine lv_if_eq (tgt := 116) hx hb dd_E_takeSuiteEnd_31 (by decide) (fun c_35 => ?_) (fun c_35 => ?_)
  · have hF := jv_t c_35 hF
    refine lv_iconst (v := 0) hx hb dd_E_takeSuiteEnd_116 (by decide) ?_
    subst hQ
    obtain rfl := Option.some.inj hF
    exact W.zret (v := 0) hx hb hr rfl (fun t ht hW => ⟨⟨0, (), rfl, rfl, by rw [ht]; exact hP, va_K.moved hW.alike hK, hD⟩, hS.F ht⟩) hS.2.2 dd_E_takeSuiteEnd_117
  · have hF := jv_f c_35 hF
    refine lv_aload_n hx hb dd_E_takeSuiteEnd_34 rfl (lv_at hl 1 rfl) ?_
    refine va_get (D := (dC, dI)) (ci := 4) (v := .ref h1) (C := cn_E) (T := tt_E) (N := 3) hx hb ht in_E hown hK hP 0 rfl rfl 0 (by decide) (ht _ tw_2_136) (fun _ h9 => h9) rfl dd_E_takeSuiteEnd_35 ?_
    refine lv_aload_n hx hb dd_E_takeSuiteEnd_38 rfl (lv_at hl 1 rfl) ?_
    refine va_get (D := (dC, dI)) (ci := 4) (v := .ref h3) (C := cn_E) (T := tt_E) (N := 3) hx hb ht in_E hown hK hP 0 rfl rfl 1 (by decide) (ht _ tw_2_137) (fun _ h9 => h9) rfl dd_E_takeSuiteEnd_39 ?_
    refine lv_iload_n hx hb dd_E_takeSuiteEnd_42 rfl (lv_at hl 0 rfl) ?_
    obtain ⟨o_43, ho_43, hF⟩ := jv_bi hF
    refine jv_ci (va_runV (C := cn_R) (As := [.int o_4]) (rest := [.ref h1]) ⟨hx, hb, hml, hown, ht⟩ (c_R_kindOf l dC dI cI cL cC cZ h3 h4 h5 h6 h7 H_33.size ct o_12.2.1 o_12.2.2.1 o_12.2.2.2 dp su nm o_4 _ ho_43) (cwV 1 ht (gi_V tw_2_219 tw_1_148 tw_1_149 tw_1_3 tw_1_150) rfl rfl rfl (by decide +kernel) ⟨Nat.le_of_ble_eq_true rfl, Nat.le_of_ble_eq_true rfl⟩) (jv_pv hK hP hD [3, 4, 5, 6, 7] rfl (by decide) rfl (va_recv hK hP (ci := 0) (q0 := 3) rfl rfl)) rfl rfl hl.1 rfl (lv_room (Nat.le_of_ble_eq_true rfl)) dd_E_takeSuiteEnd_43 ⟨Nat.le_of_ble_eq_true rfl, Nat.le_of_ble_eq_true rfl⟩) ?_
    refine lv_iconst (v := 4) hx hb dd_E_takeSuiteEnd_46 (by decide) ?_
    refine lv_icmp_ne (tgt := 55) hx hb dd_E_takeSuiteEnd_47 (by decide) (fun c_36 => ?_) (fun c_36 => ?_)
    · have hF := jv_f c_36 hF
      refine va_ldcS hx hb hown (sk_R (k := 7) hV rfl) dd_E_takeSuiteEnd_55 ?_
      exact bl57 o_28.2 o_12.2.1 o_12.2.2.1 o_12.2.2.2 o_4 4 hF H_33 locs_34 hP hD hS ls (lv_sub hl [1, 0] rfl)
    · have hF := jv_t c_36 hF
      refine va_ldcS hx hb hown (sk_R (k := 5) hV rfl) dd_E_takeSuiteEnd_50 ?_
      refine lv_goto (tgt := 57) hx hb dd_E_takeSuiteEnd_52 (by decide) ?_
      exact bl57 o_28.2 o_12.2.1 o_12.2.2.1 o_12.2.2.2 o_4 3 hF H_33 locs_34 hP hD hS ls (lv_sub hl [1, 0] rfl)
set_option maxHeartbeats 40000000 in
set_option maxRecDepth 100000 in
theorem c_E_takeRowLine (l : Launch) (dC : Nat → ClassId) (dI : Nat → Nat → Nat) (cI cL cC cZ : ClassId) (adK adV : Nat → Nat) (h0 h1 h2 h3 h4 h5 h6 h7 : Nat) (sz : Nat) (sg : Int32) (cz : Int32) (sp : Int32) (le : Int32) (ch : Nat → Int32) (ct : Int32) (lo : Int32) (oc : Int32) (kd : Nat → Int32) (dp : Nat → Int32) (su : Nat → Int32) (nm : Nat → Int64)  (out : Int32 × Int32 × Int32 × Int32 × Int32 × Int32 × (Nat → Int32) × (Nat → Int32) × (Nat → Int32) × (Nat → Int64)) (hF : fn_E_takeRowLine le ch sg sp ct lo oc kd dp su nm = some out) : Met l yy_E_takeRowLine ws_E_takeRowLine { frames := 6, cells := 0, slots := 0, locals := 134 } (mS_ adK adV (dC, dI) (tk_ cI cL cC cZ) [(h0, .inr (4, [.ref h1, .ref h3, .int sg])), (h1, .inr (3, [.ref h2, .int cz, .int sp, .int le])), (h2, .inl (cC, 3000, .inl ch)), (h3, .inr (0, [.ref h4, .ref h5, .ref h6, .ref h7, .int ct, .int lo, .int oc])), (h4, .inl (cI, 24, .inl kd)), (h5, .inl (cI, 24, .inl dp)), (h6, .inl (cI, 24, .inl su)), (h7, .inl (cL, 24, .inr (.inl nm)))] sz [.ref h0]) (va_Qi (fun r (_ : Unit) => r = out.1) (mB_ (dC, dI) (tk_ cI cL cC cZ) [(h0, .inr (4, [.ref h1, .ref h3, .int out.2.1])), (h1, .inr (3, [.ref h2, .int cz, .int out.2.2.1, .int le])), (h2, .inl (cC, 3000, .inl ch)), (h3, .inr (0, [.ref h4, .ref h5, .ref h6, .ref h7, .int out.2.2.2.1, .int out.2.2.2.2.1, .int out.2.2.2.2.2.1])), (h4, .inl (cI, 24, .inl out.2.2.2.2.2.2.1)), (h5, .inl (cI, 24, .inl out.2.2.2.2.2.2.2.1)), (h6, .inl (cI, 24, .inl out.2.2.2.2.2.2.2.2.1)), (h7, .inl (cL, 24, .inr (.inl out.2.2.2.2.2.2.2.2.2)))] (va_A [(h0, .inr (4, [.ref h1, .ref h3, .int sg])), (h1, .inr (3, [.ref h2, .int cz, .int sp, .int le])), (h2, .inl (cC, 3000, .inl ch)), (h3, .inr (0, [.ref h4, .ref h5, .ref h6, .ref h7, .int ct, .int lo, .int oc])), (h4, .inl (cI, 24, .inl kd)), (h5, .inl (cI, 24, .inl dp)), (h6, .inl (cI, 24, .inl su)), (h7, .inl (cL, 24, .inr (.inl nm)))] sz)) (va_A [(h0, .inr (4, [.ref h1, .ref h3, .int sg])), (h1, .inr (3, [.ref h2, .int cz, .int sp, .int le])), (h2, .inl (cC, 3000, .inl ch)), (h3, .inr (0, [.ref h4, .ref h5, .ref h6, .ref h7, .int ct, .int lo, .int oc])), (h4, .inl (cI, 24, .inl kd)), (h5, .inl (cI, 24, .inl dp)), (h6, .inl (cI, 24, .inl su)), (h7, .inl (cL, 24, .inr (.inl nm)))] sz)) 0 0 (va_A [(h0, .inr (4, [.ref h1, .ref h3, .int sg])), (h1, .inr (3, [.ref h2, .int cz, .int sp, .int le])), (h2, .inl (cC, 3000, .inl ch)), (h3, .inr (0, [.ref h4, .ref h5, .ref h6, .ref h7, .int ct, .int lo, .int oc])), (h4, .inl (cI, 24, .inl kd)), (h5, .inl (cI, 24, .inl dp)), (h6, .inl (cI, 24, .inl su)), (h7, .inl (cL, 24, .inr (.inl nm)))] sz) := by
  refine Met.ofW (cc := cc_E_takeRowLine) (maxL := 2) (ret := (some .boolean)) (by decide) rfl ?_
  intro p e s m args below meth c s₁ B hml hv
  obtain ⟨hargs, hsz, hP, hK, hD0, hV⟩ := hv
  have hx := B.exec
  have hb := B.bytes
  have hr := B.returns
  have hts := atoms_spec (ws := ws_E_takeRowLine) B.pre
  have ht : ∀ w ∈ TB_, w.before args s = true := fun w h => hts w (List.mem_cons_of_mem _ h)
  have hown : s.vm.findClass cn_E = some m.cls := findClass_of_methodNamed B.named
  have hlocks := B.notSynchronized
  subst hsz
  have hD := hD0.self (sz := s.heap.size)
  generalize hAe : va_A [(h0, .inr (4, [.ref h1, .ref h3, .int sg])), (h1, .inr (3, [.ref h2, .int cz, .int sp, .int le])), (h2, .inl (cC, 3000, .inl ch)), (h3, .inr (0, [.ref h4, .ref h5, .ref h6, .ref h7, .int ct, .int lo, .int oc])), (h4, .inl (cI, 24, .inl kd)), (h5, .inl (cI, 24, .inl dp)), (h6, .inl (cI, 24, .inl su)), (h7, .inl (cL, 24, .inr (.inl nm)))] s.heap.size = A at hD ⊢ hV
  have hA : ∀ q : Nat, s.heap.size ≤ q → A q := fun q h => by rw [← hAe]; exact Or.inr h
  have hS : va_S A s.heap s.heap [] := va_S.rf
  have hP : va_P (dC, dI) vwCl [(h0, .inr (4, [.ref h1, .ref h3, .int sg])), (h1, .inr (3, [.ref h2, .int cz, .int sp, .int le])), (h2, .inl (cC, 3000, .inl ch)), (h3, .inr (0, [.ref h4, .ref h5, .ref h6, .ref h7, .int ct, .int lo, .int oc])), (h4, .inl (cI, 24, .inl kd)), (h5, .inl (cI, 24, .inl dp)), (h6, .inl (cI, 24, .inl su)), (h7, .inl (cL, 24, .inr (.inl nm)))] s.heap := hP
  have hl := lv_entry [.ref h0] (n := 2) (Nat.le_of_ble_eq_true rfl)
  have he : entryFrame m args 2 = _ := (congrArg (fun a => entryFrame m a 2) hargs).trans (lg_entry_eq m [.ref h0] 2)
  rw [he]
  generalize (lg_sl [.ref h0] ++ List.replicate (2 - (lg_sl [.ref h0]).length) Slot.unset).toArray = ls at hl ⊢
  have hl : lv_has ls 2 [(0, .ref h0)] := hl
  generalize hQ : MQ below _ args s _ _ _ = Q
  have bl66 : ∀ (sg : Int32) (sp : Int32) (ct : Int32) (lo : Int32) (oc : Int32) (kd : Nat → Int32) (dp : Nat → Int32) (su : Nat → Int32) (nm : Nat → Int64) (y1 : Int32), fb_E_takeRowLine_66 le ch  sg sp ct lo oc kd dp su nm y1 = some out → ∀ (H : Heap) (locs : List Loc), va_P (dC, dI) vwCl [(h0, .inr (4, [.ref h1, .ref h3, .int sg])), (h1, .inr (3, [.ref h2, .int cz, .int sp, .int le])), (h2, .inl (cC, 3000, .inl ch)), (h3, .inr (0, [.ref h4, .ref h5, .ref h6, .ref h7, .int ct, .int lo, .int oc])), (h4, .inl (cI, 24, .inl kd)), (h5, .inl (cI, 24, .inl dp)), (h6, .inl (cI, 24, .inl su)), (h7, .inl (cL, 24, .inr (.inl nm)))] H → va_D A [(h0, .inr (4, [.ref h1, .ref h3, .int sg])), (h1, .inr (3, [.ref h2, .int cz, .int sp, .int le])), (h2, .inl (cC, 3000, .inl ch)), (h3, .inr (0, [.ref h4, .ref h5, .ref h6, .ref h7, .int ct, .int lo, .int oc])), (h4, .inl (cI, 24, .inl kd)), (h5, .inl (cI, 24, .inl dp)), (h6, .inl (cI, 24, .inl su)), (h7, .inl (cL, 24, .inr (.inl nm)))] → va_S A s.heap H locs → ∀ ls : Array Slot, lv_has ls 2 [(0, .ref h0)] → W p l e (headSpec ws_E_takeRowLine { frames := 6, cells := 0, slots := 0, locals := 134 }).room s m args below meth c H locs 0 0 Q (F0 m 66 ls [.int y1, .ref h0]) := by
    intro sg sp ct lo oc kd dp su nm y1 hF H locs hP hD hS ls hl
    unfold fb_E_takeRowLine_66 at hF
    refine va_put (D := (dC, dI)) (ci := 4) (v := .int y1) (ty := .int) (C := cn_E) (T := tt_E) (N := 3) hx hb ht in_E ty_E tyok_E nm_E hown hK hP hD hS 0 rfl rfl 2 (by decide) (ht _ tw_2_138) (fun _ h9 => h9) rfl (by decide +kernel) rfl rfl (Nat.le_of_ble_eq_true rfl) dd_E_takeRowLine_66 (fun H_37 locs_38 hP hD hS => ?_)
    have hP : va_P (dC, dI) vwCl [(h0, .inr (4, [.ref h1, .ref h3, .int y1])), (h1, .inr (3, [.ref h2, .int cz, .int sp, .int le])), (h2, .inl (cC, 3000, .inl ch)), (h3, .inr (0, [.ref h4, .ref h5, .ref h6, .ref h7, .int ct, .int lo, .int oc])), (h4, .inl (cI, 24, .inl kd)), (h5, .inl (cI, 24, .inl dp)), (h6, .inl (cI, 24, .inl su)), (h7, .inl (cL, 24, .inr (.inl nm)))] H_37 := hP
    have hD : va_D A [(h0, .inr (4, [.ref h1, .ref h3, .int y1])), (h1, .inr (3, [.ref h2, .int cz, .int sp, .int le])), (h2, .inl (cC, 3000, .inl ch)), (h3, .inr (0, [.ref h4, .ref h5, .ref h6, .ref h7, .int ct, .int lo, .int oc])), (h4, .inl (cI, 24, .inl kd)), (h5, .inl (cI, 24, .inl dp)), (h6, .inl (cI, 24, .inl su)), (h7, .inl (cL, 24, .inr (.inl nm)))] := hD
    refine lv_aload_n hx hb dd_E_takeRowLine_69 rfl (lv_at hl 0 rfl) ?_
    refine va_get (D := (dC, dI)) (ci := 4) (v := .ref h1) (C := cn_E) (T := tt_E) (N := 3) hx hb ht in_E hown hK hP 0 rfl rfl 0 (by decide) (ht _ tw_2_136) (fun _ h9 => h9) rfl dd_E_takeRowLine_70 ?_
    refine lv_aload_n hx hb dd_E_takeRowLine_73 rfl (lv_at hl 0 rfl) ?_
    refine va_get (D := (dC, dI)) (ci := 4) (v := .ref h3) (C := cn_E) (T := tt_E) (N := 3) hx hb ht in_E hown hK hP 0 rfl rfl 1 (by decide) (ht _ tw_2_137) (fun _ h9 => h9) rfl dd_E_takeRowLine_74 ?_
    refine lv_aload_n hx hb dd_E_takeRowLine_77 rfl (lv_at hl 0 rfl) ?_
    refine va_get (D := (dC, dI)) (ci := 4) (v := .ref h3) (C := cn_E) (T := tt_E) (N := 3) hx hb ht in_E hown hK hP 0 rfl rfl 1 (by decide) (ht _ tw_2_137) (fun _ h9 => h9) rfl dd_E_takeRowLine_78 ?_
    obtain ⟨o_81, ho_81, hF⟩ := jv_bi hF
    refine jv_ci (va_runV (C := cn_R) (As := []) (rest := [.ref h3, .ref h1]) ⟨hx, hb, hml, hown, ht⟩ (c_R_innermost l dC dI cI cL cC cZ h3 h4 h5 h6 h7 H_37.size ct lo oc kd dp su nm _ ho_81) (cwV 0 ht (gi_V tw_2_183 tw_2_86 tw_2_87 tw_1_3 tw_2_88) rfl rfl rfl (by decide +kernel) ⟨Nat.le_of_ble_eq_true rfl, Nat.le_of_ble_eq_true rfl⟩) (jv_pv hK hP hD [3, 4, 5, 6, 7] rfl (by decide) rfl (va_recv hK hP (ci := 0) (q0 := 3) rfl rfl)) rfl rfl hl.1 rfl (lv_room (Nat.le_of_ble_eq_true rfl)) dd_E_takeRowLine_81 ⟨Nat.le_of_ble_eq_true rfl, Nat.le_of_ble_eq_true rfl⟩) ?_
    obtain ⟨o_84, ho_84, hF⟩ := jv_bi hF
    refine jv_ci (va_runV (C := cn_R) (As := [.int o_81]) (rest := [.ref h1]) ⟨hx, hb, hml, hown, ht⟩ (c_R_rowSize l dC dI cI cL cC cZ h3 h4 h5 h6 h7 H_37.size ct lo oc kd dp su nm o_81 _ ho_84) (cwV 1 ht (gi_V tw_2_184 tw_2_36 tw_2_37 tw_1_3 tw_2_38) rfl rfl rfl (by decide +kernel) ⟨Nat.le_of_ble_eq_true rfl, Nat.le_of_ble_eq_true rfl⟩) (jv_pv hK hP hD [3, 4, 5, 6, 7] rfl (by decide) rfl (va_recv hK hP (ci := 0) (q0 := 3) rfl rfl)) rfl rfl hl.1 rfl (lv_room (Nat.le_of_ble_eq_true rfl)) dd_E_takeRowLine_84 ⟨Nat.le_of_ble_eq_true rfl, Nat.le_of_ble_eq_true rfl⟩) ?_
    obtain ⟨o_87, ho_87, hF⟩ := jv_bi hF
    refine jv_mi (wr := [(h0, .inr (4, [.ref h1, .ref h3, .int y1])), (h3, .inr (0, [.ref h4, .ref h5, .ref h6, .ref h7, .int ct, .int lo, .int oc])), (h4, .inl (cI, 24, .inl kd)), (h5, .inl (cI, 24, .inl dp)), (h6, .inl (cI, 24, .inl su)), (h7, .inl (cL, 24, .inr (.inl nm)))]) (w1 := [(h1, .inr (3, [.ref h2, .int cz, .int o_87.2, .int le])), (h2, .inl (cC, 3000, .inl ch))]) (va_runV (C := cn_C) (As := [.int o_84]) (rest := []) ⟨hx, hb, hml, hown, ht⟩ (c_C_skipNumber l dC dI cI cL cC cZ h1 h2 H_37.size cz sp le ch o_84 _ ho_87) (cwV 1 ht (gi_V tw_2_185 tw_2_186 tw_2_187 tw_1_12 tw_2_188) rfl rfl rfl (by decide +kernel) ⟨Nat.le_of_ble_eq_true rfl, Nat.le_of_ble_eq_true rfl⟩) (jv_pv hK hP hD [1, 2] rfl (by decide) rfl (va_recv hK hP (ci := 3) (q0 := 1) rfl rfl)) rfl rfl hl.1 rfl (lv_room (Nat.le_of_ble_eq_true rfl)) dd_E_takeRowLine_87 ⟨Nat.le_of_ble_eq_true rfl, Nat.le_of_ble_eq_true rfl⟩) hP hD hS hA [1, 2] [0, 3, 4, 5, 6, 7] rfl rfl (by decide) (by decide) (fun H_39 locs_40 hP hD hS => ?_)
    have hP : va_P (dC, dI) vwCl [(h0, .inr (4, [.ref h1, .ref h3, .int y1])), (h1, .inr (3, [.ref h2, .int cz, .int o_87.2, .int le])), (h2, .inl (cC, 3000, .inl ch)), (h3, .inr (0, [.ref h4, .ref h5, .ref h6, .ref h7, .int ct, .int lo, .int oc])), (h4, .inl (cI, 24, .inl kd)), (h5, .inl (cI, 24, .inl dp)), (h6, .inl (cI, 24, .inl su)), (h7, .inl (cL, 24, .inr (.inl nm)))] H_39 := hP.sub [0, 6, 7, 1, 2, 3, 4, 5] rfl
    have hD : va_D A [(h0, .inr (4, [.ref h1, .ref h3, .int y1])), (h1, .inr (3, [.ref h2, .int cz, .int o_87.2, .int le])), (h2, .inl (cC, 3000, .inl ch)), (h3, .inr (0, [.ref h4, .ref h5, .ref h6, .ref h7, .int ct, .int lo, .int oc])), (h4, .inl (cI, 24, .inl kd)), (h5, .inl (cI, 24, .inl dp)), (h6, .inl (cI, 24, .inl su)), (h7, .inl (cL, 24, .inr (.inl nm)))] := hD.sub [0, 6, 7, 1, 2, 3, 4, 5] (by decide) rfl
    obtain ⟨z_41, hF⟩ := jv_gi hF
    subst hQ
    obtain rfl := Option.some.inj hF
    exact W.zret (v := o_87.1) hx hb hr (jv_zn z_41).1 (fun t ht hW => ⟨⟨o_87.1, (), rfl, rfl, by rw [ht]; exact hP, va_K.moved hW.alike hK, hD⟩, hS.F ht⟩) hS.2.2 dd_E_takeRowLine_90
  have bl31 : ∀ (sg : Int32) (sp : Int32) (ct : Int32) (lo : Int32) (oc : Int32) (kd : Nat → Int32) (dp : Nat → Int32) (su : Nat → Int32) (nm : Nat → Int64) (x1 : Int32), fb_E_takeRowLine_31 le ch  sg sp ct lo oc kd dp su nm x1 = some out → ∀ (H : Heap) (locs : List Loc), va_P (dC, dI) vwCl [(h0, .inr (4, [.ref h1, .ref h3, .int sg])), (h1, .inr (3, [.ref h2, .int cz, .int sp, .int le])), (h2, .inl (cC, 3000, .inl ch)), (h3, .inr (0, [.ref h4, .ref h5, .ref h6, .ref h7, .int ct, .int lo, .int oc])), (h4, .inl (cI, 24, .inl kd)), (h5, .inl (cI, 24, .inl dp)), (h6, .inl (cI, 24, .inl su)), (h7, .inl (cL, 24, .inr (.inl nm)))] H → va_D A [(h0, .inr (4, [.ref h1, .ref h3, .int sg])), (h1, .inr (3, [.ref h2, .int cz, .int sp, .int le])), (h2, .inl (cC, 3000, .inl ch)), (h3, .inr (0, [.ref h4, .ref h5, .ref h6, .ref h7, .int ct, .int lo, .int oc])), (h4, .inl (cI, 24, .inl kd)), (h5, .inl (cI, 24, .inl dp)), (h6, .inl (cI, 24, .inl su)), (h7, .inl (cL, 24, .inr (.inl nm)))] → va_S A s.heap H locs → ∀ ls : Array Slot, lv_has ls 2 [(0, .ref h0), (1, .int x1)] → W p l e (headSpec ws_E_takeRowLine { frames := 6, cells := 0, slots := 0, locals := 134 }).room s m args below meth c H locs 0 0 Q (F0 m 31 ls []) := by
    intro sg sp ct lo oc kd dp su nm x1 hF H locs hP hD hS ls hl
    unfold fb_E_takeRowLine_31 at hF
    refine lv_aload_n hx hb dd_E_takeRowLine_31 rfl (lv_at hl 0 rfl) ?_
    refine va_get (D := (dC, dI)) (ci := 4) (v := .ref h1) (C := cn_E) (T := tt_E) (N := 3) hx hb ht in_E hown hK hP 0 rfl rfl 0 (by decide) (ht _ tw_2_136) (fun _ h9 => h9) rfl dd_E_takeRowLine_32 ?_
    refine lv_iload_n hx hb dd_E_takeRowLine_35 rfl (lv_at hl 1 rfl) ?_
    obtain ⟨o_36, ho_36, hF⟩ := jv_bi hF
    refine jv_mi (wr := [(h0, .inr (4, [.ref h1, .ref h3, .int sg])), (h3, .inr (0, [.ref h4, .ref h5, .ref h6, .ref h7, .int ct, .int lo, .int oc])), (h4, .inl (cI, 24, .inl kd)), (h5, .inl (cI, 24, .inl dp)), (h6, .inl (cI, 24, .inl su)), (h7, .inl (cL, 24, .inr (.inl nm)))]) (w1 := [(h1, .inr (3, [.ref h2, .int cz, .int o_36.2, .int le])), (h2, .inl (cC, 3000, .inl ch))]) (va_runV (C := cn_C) (As := [.int x1]) (rest := []) ⟨hx, hb, hml, hown, ht⟩ (c_C_skipIndent l dC dI cI cL cC cZ adK adV h1 h2 H.size cz sp le ch x1 _ ho_36) (cwV 1 ht (gi_V tw_2_176 tw_2_177 tw_2_178 tw_1_12 tw_2_179) rfl rfl rfl (by decide +kernel) ⟨Nat.le_of_ble_eq_true rfl, Nat.le_of_ble_eq_true rfl⟩) (jv_sv hK hP hD hS hA hV [1, 2] rfl (by decide) rfl (va_recv hK hP (ci := 3) (q0 := 1) rfl rfl)) rfl rfl hl.1 rfl (lv_room (Nat.le_of_ble_eq_true rfl)) dd_E_takeRowLine_36 ⟨Nat.le_of_ble_eq_true rfl, Nat.le_of_ble_eq_true rfl⟩) hP hD hS hA [1, 2] [0, 3, 4, 5, 6, 7] rfl rfl (by decide) (by decide) (fun H_42 locs_43 hP hD hS => ?_)
    have hP : va_P (dC, dI) vwCl [(h0, .inr (4, [.ref h1, .ref h3, .int sg])), (h1, .inr (3, [.ref h2, .int cz, .int o_36.2, .int le])), (h2, .inl (cC, 3000, .inl ch)), (h3, .inr (0, [.ref h4, .ref h5, .ref h6, .ref h7, .int ct, .int lo, .int oc])), (h4, .inl (cI, 24, .inl kd)), (h5, .inl (cI, 24, .inl dp)), (h6, .inl (cI, 24, .inl su)), (h7, .inl (cL, 24, .inr (.inl nm)))] H_42 := hP.sub [0, 6, 7, 1, 2, 3, 4, 5] rfl
    have hD : va_D A [(h0, .inr (4, [.ref h1, .ref h3, .int sg])), (h1, .inr (3, [.ref h2, .int cz, .int o_36.2, .int le])), (h2, .inl (cC, 3000, .inl ch)), (h3, .inr (0, [.ref h4, .ref h5, .ref h6, .ref h7, .int ct, .int lo, .int oc])), (h4, .inl (cI, 24, .inl kd)), (h5, .inl (cI, 24, .inl dp)), (h6, .inl (cI, 24, .inl su)), (h7, .inl (cL, 24, .inr (.inl nm)))] := hD.sub [0, 6, 7, 1, 2, 3, 4, 5] (by decide) rfl
    refine lv_if_ne (tgt := 44) hx hb dd_E_takeRowLine_39 (by decide) (fun c_44 => ?_) (fun c_44 => ?_)
    · have hF := jv_f c_44 hF
      refine lv_aload_n hx hb dd_E_takeRowLine_44 rfl (lv_at hl 0 rfl) ?_
      refine va_get (D := (dC, dI)) (ci := 4) (v := .ref h1) (C := cn_E) (T := tt_E) (N := 3) hx hb ht in_E hown hK hP 0 rfl rfl 0 (by decide) (ht _ tw_2_136) (fun _ h9 => h9) rfl dd_E_takeRowLine_45 ?_
      refine va_ldcS hx hb hown (sk_R (k := 3) hV rfl) dd_E_takeRowLine_48 ?_
      obtain ⟨o_50, ho_50, hF⟩ := jv_bi hF
      refine jv_mi (wr := [(h0, .inr (4, [.ref h1, .ref h3, .int sg])), (h3, .inr (0, [.ref h4, .ref h5, .ref h6, .ref h7, .int ct, .int lo, .int oc])), (h4, .inl (cI, 24, .inl kd)), (h5, .inl (cI, 24, .inl dp)), (h6, .inl (cI, 24, .inl su)), (h7, .inl (cL, 24, .inr (.inl nm)))]) (w1 := [(h1, .inr (3, [.ref h2, .int cz, .int o_50.2, .int le])), (h2, .inl (cC, 3000, .inl ch))]) (va_runV (C := cn_C) (As := [.ref (adK 8)]) (rest := []) ⟨hx, hb, hml, hown, ht⟩ (c_C_skipText l dC dI cI cL cC cZ adK adV h1 h2 H_42.size cz o_36.2 le ch 8 _ ho_50) (cwV 1 ht (gi_V tw_2_164 tw_2_165 tw_2_166 tw_1_12 tw_2_167) rfl rfl rfl (by decide +kernel) ⟨Nat.le_of_ble_eq_true rfl, Nat.le_of_ble_eq_true rfl⟩) (jv_sv hK hP hD hS hA hV [1, 2] rfl (by decide) rfl (va_recv hK hP (ci := 3) (q0 := 1) rfl rfl)) rfl rfl hl.1 rfl (lv_room (Nat.le_of_ble_eq_true rfl)) dd_E_takeRowLine_50 ⟨Nat.le_of_ble_eq_true rfl, Nat.le_of_ble_eq_true rfl⟩) hP hD hS hA [1, 2] [0, 3, 4, 5, 6, 7] rfl rfl (by decide) (by decide) (fun H_45 locs_46 hP hD hS => ?_)
      have hP : va_P (dC, dI) vwCl [(h0, .inr (4, [.ref h1, .ref h3, .int sg])), (h1, .inr (3, [.ref h2, .int cz, .int o_50.2, .int le])), (h2, .inl (cC, 3000, .inl ch)), (h3, .inr (0, [.ref h4, .ref h5, .ref h6, .ref h7, .int ct, .int lo, .int oc])), (h4, .inl (cI, 24, .inl kd)), (h5, .inl (cI, 24, .inl dp)), (h6, .inl (cI, 24, .inl su)), (h7, .inl (cL, 24, .inr (.inl nm)))] H_45 := hP.sub [0, 6, 7, 1, 2, 3, 4, 5] rfl
      have hD : va_D A [(h0, .inr (4, [.ref h1, .ref h3, .int sg])), (h1, .inr (3, [.ref h2, .int cz, .int o_50.2, .int le])), (h2, .inl (cC, 3000, .inl ch)), (h3, .inr (0, [.ref h4, .ref h5, .ref h6, .ref h7, .int ct, .int lo, .int oc])), (h4, .inl (cI, 24, .inl kd)), (h5, .inl (cI, 24, .inl dp)), (h6, .inl (cI, 24, .inl su)), (h7, .inl (cL, 24, .inr (.inl nm)))] := hD.sub [0, 6, 7, 1, 2, 3, 4, 5] (by decide) rfl
      refine lv_if_eq (tgt := 91) hx hb dd_E_takeRowLine_53 (by decide) (fun c_47 => ?_) (fun c_47 => ?_)
      · have hF := jv_t c_47 hF
        refine lv_aload_n hx hb dd_E_takeRowLine_91 rfl (lv_at hl 0 rfl) ?_
        refine va_get (D := (dC, dI)) (ci := 4) (v := .ref h1) (C := cn_E) (T := tt_E) (N := 3) hx hb ht in_E hown hK hP 0 rfl rfl 0 (by decide) (ht _ tw_2_136) (fun _ h9 => h9) rfl dd_E_takeRowLine_92 ?_
        refine va_ldcS hx hb hown (sk_R (k := 4) hV rfl) dd_E_takeRowLine_95 ?_
        obtain ⟨o_97, ho_97, hF⟩ := jv_bi hF
        refine jv_mi (wr := [(h0, .inr (4, [.ref h1, .ref h3, .int sg])), (h3, .inr (0, [.ref h4, .ref h5, .ref h6, .ref h7, .int ct, .int lo, .int oc])), (h4, .inl (cI, 24, .inl kd)), (h5, .inl (cI, 24, .inl dp)), (h6, .inl (cI, 24, .inl su)), (h7, .inl (cL, 24, .inr (.inl nm)))]) (w1 := [(h1, .inr (3, [.ref h2, .int cz, .int o_97.2, .int le])), (h2, .inl (cC, 3000, .inl ch))]) (va_runV (C := cn_C) (As := [.ref (adK 2)]) (rest := []) ⟨hx, hb, hml, hown, ht⟩ (c_C_skipText l dC dI cI cL cC cZ adK adV h1 h2 H_45.size cz o_50.2 le ch 2 _ ho_97) (cwV 1 ht (gi_V tw_2_164 tw_2_165 tw_2_166 tw_1_12 tw_2_167) rfl rfl rfl (by decide +kernel) ⟨Nat.le_of_ble_eq_true rfl, Nat.le_of_ble_eq_true rfl⟩) (jv_sv hK hP hD hS hA hV [1, 2] rfl (by decide) rfl (va_recv hK hP (ci := 3) (q0 := 1) rfl rfl)) rfl rfl hl.1 rfl (lv_room (Nat.le_of_ble_eq_true rfl)) dd_E_takeRowLine_97 ⟨Nat.le_of_ble_eq_true rfl, Nat.le_of_ble_eq_true rfl⟩) hP hD hS hA [1, 2] [0, 3, 4, 5, 6, 7] rfl rfl (by decide) (by decide) (fun H_48 locs_49 hP hD hS => ?_)
        have hP : va_P (dC, dI) vwCl [(h0, .inr (4, [.ref h1, .ref h3, .int sg])), (h1, .inr (3, [.ref h2, .int cz, .int o_97.2, .int le])), (h2, .inl (cC, 3000, .inl ch)), (h3, .inr (0, [.ref h4, .ref h5, .ref h6, .ref h7, .int ct, .int lo, .int oc])), (h4, .inl (cI, 24, .inl kd)), (h5, .inl (cI, 24, .inl dp)), (h6, .inl (cI, 24, .inl su)), (h7, .inl (cL, 24, .inr (.inl nm)))] H_48 := hP.sub [0, 6, 7, 1, 2, 3, 4, 5] rfl
        have hD : va_D A [(h0, .inr (4, [.ref h1, .ref h3, .int sg])), (h1, .inr (3, [.ref h2, .int cz, .int o_97.2, .int le])), (h2, .inl (cC, 3000, .inl ch)), (h3, .inr (0, [.ref h4, .ref h5, .ref h6, .ref h7, .int ct, .int lo, .int oc])), (h4, .inl (cI, 24, .inl kd)), (h5, .inl (cI, 24, .inl dp)), (h6, .inl (cI, 24, .inl su)), (h7, .inl (cL, 24, .inr (.inl nm)))] := hD.sub [0, 6, 7, 1, 2, 3, 4, 5] (by decide) rfl
        refine lv_if_eq (tgt := 128) hx hb dd_E_takeRowLine_100 (by decide) (fun c_50 => ?_) (fun c_50 => ?_)
        · have hF := jv_t c_50 hF
          refine lv_aload_n hx hb dd_E_takeRowLine_128 rfl (lv_at hl 0 rfl) ?_
          refine va_get (D := (dC, dI)) (ci := 4) (v := .ref h1) (C := cn_E) (T := tt_E) (N := 3) hx hb ht in_E hown hK hP 0 rfl rfl 0 (by decide) (ht _ tw_2_136) (fun _ h9 => h9) rfl dd_E_takeRowLine_129 ?_
          refine va_ldcS hx hb hown (sk_R (k := 5) hV rfl) dd_E_takeRowLine_132 ?_
          obtain ⟨o_134, ho_134, hF⟩ := jv_bi hF
          refine jv_mi (wr := [(h0, .inr (4, [.ref h1, .ref h3, .int sg])), (h3, .inr (0, [.ref h4, .ref h5, .ref h6, .ref h7, .int ct, .int lo, .int oc])), (h4, .inl (cI, 24, .inl kd)), (h5, .inl (cI, 24, .inl dp)), (h6, .inl (cI, 24, .inl su)), (h7, .inl (cL, 24, .inr (.inl nm)))]) (w1 := [(h1, .inr (3, [.ref h2, .int cz, .int o_134.2, .int le])), (h2, .inl (cC, 3000, .inl ch))]) (va_runV (C := cn_C) (As := [.ref (adK 3)]) (rest := []) ⟨hx, hb, hml, hown, ht⟩ (c_C_skipText l dC dI cI cL cC cZ adK adV h1 h2 H_48.size cz o_97.2 le ch 3 _ ho_134) (cwV 1 ht (gi_V tw_2_164 tw_2_165 tw_2_166 tw_1_12 tw_2_167) rfl rfl rfl (by decide +kernel) ⟨Nat.le_of_ble_eq_true rfl, Nat.le_of_ble_eq_true rfl⟩) (jv_sv hK hP hD hS hA hV [1, 2] rfl (by decide) rfl (va_recv hK hP (ci := 3) (q0 := 1) rfl rfl)) rfl rfl hl.1 rfl (lv_room (Nat.le_of_ble_eq_true rfl)) dd_E_takeRowLine_134 ⟨Nat.le_of_ble_eq_true rfl, Nat.le_of_ble_eq_true rfl⟩) hP hD hS hA [1, 2] [0, 3, 4, 5, 6, 7] rfl rfl (by decide) (by decide) (fun H_51 locs_52 hP hD hS => ?_)
          have hP : va_P (dC, dI) vwCl [(h0, .inr (4, [.ref h1, .ref h3, .int sg])), (h1, .inr (3, [.ref h2, .int cz, .int o_134.2, .int le])), (h2, .inl (cC, 3000, .inl ch)), (h3, .inr (0, [.ref h4, .ref h5, .ref h6, .ref h7, .int ct, .int lo, .int oc])), (h4, .inl (cI, 24, .inl kd)), (h5, .inl (cI, 24, .inl dp)), (h6, .inl (cI, 24, .inl su)), (h7, .inl (cL, 24, .inr (.inl nm)))] H_51 := hP.sub [0, 6, 7, 1, 2, 3, 4, 5] rfl
          have hD : va_D A [(h0, .inr (4, [.ref h1, .ref h3, .int sg])), (h1, .inr (3, [.ref h2, .int cz, .int o_134.2, .int le])), (h2, .inl (cC, 3000, .inl ch)), (h3, .inr (0, [.ref h4, .ref h5, .ref h6, .ref h7, .int ct, .int lo, .int oc])), (h4, .inl (cI, 24, .inl kd)), (h5, .inl (cI, 24, .inl dp)), (h6, .inl (cI, 24, .inl su)), (h7, .inl (cL, 24, .inr (.inl nm)))] := hD.sub [0, 6, 7, 1, 2, 3, 4, 5] (by decide) rfl
          refine lv_if_eq (tgt := 149) hx hb dd_E_takeRowLine_137 (by decide) (fun c_53 => ?_) (fun c_53 => ?_)
          · have hF := jv_t c_53 hF
            refine lv_aload_n hx hb dd_E_takeRowLine_149 rfl (lv_at hl 0 rfl) ?_
            refine va_get (D := (dC, dI)) (ci := 4) (v := .ref h1) (C := cn_E) (T := tt_E) (N := 3) hx hb ht in_E hown hK hP 0 rfl rfl 0 (by decide) (ht _ tw_2_136) (fun _ h9 => h9) rfl dd_E_takeRowLine_150 ?_
            refine va_ldcS hx hb hown (sk_R (k := 7) hV rfl) dd_E_takeRowLine_153 ?_
            obtain ⟨o_155, ho_155, hF⟩ := jv_bi hF
            refine jv_mi (wr := [(h0, .inr (4, [.ref h1, .ref h3, .int sg])), (h3, .inr (0, [.ref h4, .ref h5, .ref h6, .ref h7, .int ct, .int lo, .int oc])), (h4, .inl (cI, 24, .inl kd)), (h5, .inl (cI, 24, .inl dp)), (h6, .inl (cI, 24, .inl su)), (h7, .inl (cL, 24, .inr (.inl nm)))]) (w1 := [(h1, .inr (3, [.ref h2, .int cz, .int o_155.2, .int le])), (h2, .inl (cC, 3000, .inl ch))]) (va_runV (C := cn_C) (As := [.ref (adK 4)]) (rest := []) ⟨hx, hb, hml, hown, ht⟩ (c_C_skipText l dC dI cI cL cC cZ adK adV h1 h2 H_51.size cz o_134.2 le ch 4 _ ho_155) (cwV 1 ht (gi_V tw_2_164 tw_2_165 tw_2_166 tw_1_12 tw_2_167) rfl rfl rfl (by decide +kernel) ⟨Nat.le_of_ble_eq_true rfl, Nat.le_of_ble_eq_true rfl⟩) (jv_sv hK hP hD hS hA hV [1, 2] rfl (by decide) rfl (va_recv hK hP (ci := 3) (q0 := 1) rfl rfl)) rfl rfl hl.1 rfl (lv_room (Nat.le_of_ble_eq_true rfl)) dd_E_takeRowLine_155 ⟨Nat.le_of_ble_eq_true rfl, Nat.le_of_ble_eq_true rfl⟩) hP hD hS hA [1, 2] [0, 3, 4, 5, 6, 7] rfl rfl (by decide) (by decide) (fun H_54 locs_55 hP hD hS => ?_)
            have hP : va_P (dC, dI) vwCl [(h0, .inr (4, [.ref h1, .ref h3, .int sg])), (h1, .inr (3, [.ref h2, .int cz, .int o_155.2, .int le])), (h2, .inl (cC, 3000, .inl ch)), (h3, .inr (0, [.ref h4, .ref h5, .ref h6, .ref h7, .int ct, .int lo, .int oc])), (h4, .inl (cI, 24, .inl kd)), (h5, .inl (cI, 24, .inl dp)), (h6, .inl (cI, 24, .inl su)), (h7, .inl (cL, 24, .inr (.inl nm)))] H_54 := hP.sub [0, 6, 7, 1, 2, 3, 4, 5] rfl
            have hD : va_D A [(h0, .inr (4, [.ref h1, .ref h3, .int sg])), (h1, .inr (3, [.ref h2, .int cz, .int o_155.2, .int le])), (h2, .inl (cC, 3000, .inl ch)), (h3, .inr (0, [.ref h4, .ref h5, .ref h6, .ref h7, .int ct, .int lo, .int oc])), (h4, .inl (cI, 24, .inl kd)), (h5, .inl (cI, 24, .inl dp)), (h6, .inl (cI, 24, .inl su)), (h7, .inl (cL, 24, .inr (.inl nm)))] := hD.sub [0, 6, 7, 1, 2, 3, 4, 5] (by decide) rfl
            refine lv_if_eq (tgt := 176) hx hb dd_E_takeRowLine_158 (by decide) (fun c_56 => ?_) (fun c_56 => ?_)
            · have hF := jv_t c_56 hF
              refine lv_iconst (v := 0) hx hb dd_E_takeRowLine_176 (by decide) ?_
              subst hQ
              obtain rfl := Option.some.inj hF
              exact W.zret (v := 0) hx hb hr rfl (fun t ht hW => ⟨⟨0, (), rfl, rfl, by rw [ht]; exact hP, va_K.moved hW.alike hK, hD⟩, hS.F ht⟩) hS.2.2 dd_E_takeRowLine_177
            · have hF := jv_f c_56 hF
              refine lv_aload_n hx hb dd_E_takeRowLine_161 rfl (lv_at hl 0 rfl) ?_
              refine lv_iconst (v := 1) hx hb dd_E_takeRowLine_162 (by decide) ?_
              refine va_ldcS hx hb hown (sk_R (k := 8) hV rfl) dd_E_takeRowLine_163 ?_
              refine lv_iconst (v := 3) hx hb dd_E_takeRowLine_165 (by decide) ?_
              obtain ⟨o_166, ho_166, hF⟩ := jv_bi hF
              refine jv_mi (wr := []) (w1 := [(h0, .inr (4, [.ref h1, .ref h3, .int sg])), (h1, .inr (3, [.ref h2, .int cz, .int o_166.2.1, .int le])), (h2, .inl (cC, 3000, .inl ch)), (h3, .inr (0, [.ref h4, .ref h5, .ref h6, .ref h7, .int o_166.2.2.1, .int o_166.2.2.2.1, .int o_166.2.2.2.2.1])), (h4, .inl (cI, 24, .inl o_166.2.2.2.2.2.1)), (h5, .inl (cI, 24, .inl o_166.2.2.2.2.2.2.1)), (h6, .inl (cI, 24, .inl o_166.2.2.2.2.2.2.2.1)), (h7, .inl (cL, 24, .inr (.inl o_166.2.2.2.2.2.2.2.2)))]) (va_runV (C := cn_E) (As := [.int 1, .ref (adK 7), .int 3]) (rest := []) ⟨hx, hb, hml, hown, ht⟩ (c_E_takeTest l dC dI cI cL cC cZ adK adV h0 h1 h2 h3 h4 h5 h6 h7 H_54.size sg cz o_155.2 le ch ct lo oc kd dp su nm 1 7 3 _ ho_166) (cwV 3 ht (gi_V tw_2_206 tw_2_208 tw_p_12 tw_1_11 tw_2_209) rfl rfl rfl (by decide +kernel) ⟨Nat.le_of_ble_eq_true rfl, Nat.le_of_ble_eq_true rfl⟩) (jv_sv hK hP hD hS hA hV [0, 1, 2, 3, 4, 5, 6, 7] rfl (by decide) rfl (va_recv hK hP (ci := 4) (q0 := 0) rfl rfl)) rfl rfl hl.1 rfl (lv_room (Nat.le_of_ble_eq_true rfl)) dd_E_takeRowLine_166 ⟨Nat.le_of_ble_eq_true rfl, Nat.le_of_ble_eq_true rfl⟩) hP hD hS hA [0, 1, 2, 3, 4, 5, 6, 7] [] rfl rfl (by decide) (by decide) (fun H_57 locs_58 hP hD hS => ?_)
              have hP : va_P (dC, dI) vwCl [(h0, .inr (4, [.ref h1, .ref h3, .int sg])), (h1, .inr (3, [.ref h2, .int cz, .int o_166.2.1, .int le])), (h2, .inl (cC, 3000, .inl ch)), (h3, .inr (0, [.ref h4, .ref h5, .ref h6, .ref h7, .int o_166.2.2.1, .int o_166.2.2.2.1, .int o_166.2.2.2.2.1])), (h4, .inl (cI, 24, .inl o_166.2.2.2.2.2.1)), (h5, .inl (cI, 24, .inl o_166.2.2.2.2.2.2.1)), (h6, .inl (cI, 24, .inl o_166.2.2.2.2.2.2.2.1)), (h7, .inl (cL, 24, .inr (.inl o_166.2.2.2.2.2.2.2.2)))] H_57 := hP.sub [0, 1, 2, 3, 4, 5, 6, 7] rfl
              have hD : va_D A [(h0, .inr (4, [.ref h1, .ref h3, .int sg])), (h1, .inr (3, [.ref h2, .int cz, .int o_166.2.1, .int le])), (h2, .inl (cC, 3000, .inl ch)), (h3, .inr (0, [.ref h4, .ref h5, .ref h6, .ref h7, .int o_166.2.2.1, .int o_166.2.2.2.1, .int o_166.2.2.2.2.1])), (h4, .inl (cI, 24, .inl o_166.2.2.2.2.2.1)), (h5, .inl (cI, 24, .inl o_166.2.2.2.2.2.2.1)), (h6, .inl (cI, 24, .inl o_166.2.2.2.2.2.2.2.1)), (h7, .inl (cL, 24, .inr (.inl o_166.2.2.2.2.2.2.2.2)))] := hD.sub [0, 1, 2, 3, 4, 5, 6, 7] (by decide) rfl
              refine lv_if_eq (tgt := 176) hx hb dd_E_takeRowLine_169 (by decide) (fun c_59 => ?_) (fun c_59 => ?_)
              · have hF := jv_t c_59 hF
                refine lv_iconst (v := 0) hx hb dd_E_takeRowLine_176 (by decide) ?_
                subst hQ
                obtain rfl := Option.some.inj hF
                exact W.zret (v := 0) hx hb hr rfl (fun t ht hW => ⟨⟨0, (), rfl, rfl, by rw [ht]; exact hP, va_K.moved hW.alike hK, hD⟩, hS.F ht⟩) hS.2.2 dd_E_takeRowLine_177
              · have hF := jv_f c_59 hF
                refine lv_iconst (v := 1) hx hb dd_E_takeRowLine_172 (by decide) ?_
                refine lv_goto (tgt := 177) hx hb dd_E_takeRowLine_173 (by decide) ?_
                subst hQ
                obtain rfl := Option.some.inj hF
                exact W.zret (v := 1) hx hb hr rfl (fun t ht hW => ⟨⟨1, (), rfl, rfl, by rw [ht]; exact hP, va_K.moved hW.alike hK, hD⟩, hS.F ht⟩) hS.2.2 dd_E_takeRowLine_177
          · have hF := jv_f c_53 hF
            refine lv_aload_n hx hb dd_E_takeRowLine_140 rfl (lv_at hl 0 rfl) ?_
            refine lv_iconst (v := 0) hx hb dd_E_takeRowLine_141 (by decide) ?_
            refine va_ldcS hx hb hown (sk_R (k := 6) hV rfl) dd_E_takeRowLine_142 ?_
            refine lv_iconst (v := 2) hx hb dd_E_takeRowLine_144 (by decide) ?_
            obtain ⟨o_145, ho_145, hF⟩ := jv_bi hF
            refine jv_mi (wr := []) (w1 := [(h0, .inr (4, [.ref h1, .ref h3, .int sg])), (h1, .inr (3, [.ref h2, .int cz, .int o_145.2.1, .int le])), (h2, .inl (cC, 3000, .inl ch)), (h3, .inr (0, [.ref h4, .ref h5, .ref h6, .ref h7, .int o_145.2.2.1, .int o_145.2.2.2.1, .int o_145.2.2.2.2.1])), (h4, .inl (cI, 24, .inl o_145.2.2.2.2.2.1)), (h5, .inl (cI, 24, .inl o_145.2.2.2.2.2.2.1)), (h6, .inl (cI, 24, .inl o_145.2.2.2.2.2.2.2.1)), (h7, .inl (cL, 24, .inr (.inl o_145.2.2.2.2.2.2.2.2)))]) (va_runV (C := cn_E) (As := [.int 0, .ref (adK 6), .int 2]) (rest := []) ⟨hx, hb, hml, hown, ht⟩ (c_E_takeTest l dC dI cI cL cC cZ adK adV h0 h1 h2 h3 h4 h5 h6 h7 H_51.size sg cz o_134.2 le ch ct lo oc kd dp su nm 0 6 2 _ ho_145) (cwV 3 ht (gi_V tw_2_206 tw_2_208 tw_p_12 tw_1_11 tw_2_209) rfl rfl rfl (by decide +kernel) ⟨Nat.le_of_ble_eq_true rfl, Nat.le_of_ble_eq_true rfl⟩) (jv_sv hK hP hD hS hA hV [0, 1, 2, 3, 4, 5, 6, 7] rfl (by decide) rfl (va_recv hK hP (ci := 4) (q0 := 0) rfl rfl)) rfl rfl hl.1 rfl (lv_room (Nat.le_of_ble_eq_true rfl)) dd_E_takeRowLine_145 ⟨Nat.le_of_ble_eq_true rfl, Nat.le_of_ble_eq_true rfl⟩) hP hD hS hA [0, 1, 2, 3, 4, 5, 6, 7] [] rfl rfl (by decide) (by decide) (fun H_60 locs_61 hP hD hS => ?_)
            have hP : va_P (dC, dI) vwCl [(h0, .inr (4, [.ref h1, .ref h3, .int sg])), (h1, .inr (3, [.ref h2, .int cz, .int o_145.2.1, .int le])), (h2, .inl (cC, 3000, .inl ch)), (h3, .inr (0, [.ref h4, .ref h5, .ref h6, .ref h7, .int o_145.2.2.1, .int o_145.2.2.2.1, .int o_145.2.2.2.2.1])), (h4, .inl (cI, 24, .inl o_145.2.2.2.2.2.1)), (h5, .inl (cI, 24, .inl o_145.2.2.2.2.2.2.1)), (h6, .inl (cI, 24, .inl o_145.2.2.2.2.2.2.2.1)), (h7, .inl (cL, 24, .inr (.inl o_145.2.2.2.2.2.2.2.2)))] H_60 := hP.sub [0, 1, 2, 3, 4, 5, 6, 7] rfl
            have hD : va_D A [(h0, .inr (4, [.ref h1, .ref h3, .int sg])), (h1, .inr (3, [.ref h2, .int cz, .int o_145.2.1, .int le])), (h2, .inl (cC, 3000, .inl ch)), (h3, .inr (0, [.ref h4, .ref h5, .ref h6, .ref h7, .int o_145.2.2.1, .int o_145.2.2.2.1, .int o_145.2.2.2.2.1])), (h4, .inl (cI, 24, .inl o_145.2.2.2.2.2.1)), (h5, .inl (cI, 24, .inl o_145.2.2.2.2.2.2.1)), (h6, .inl (cI, 24, .inl o_145.2.2.2.2.2.2.2.1)), (h7, .inl (cL, 24, .inr (.inl o_145.2.2.2.2.2.2.2.2)))] := hD.sub [0, 1, 2, 3, 4, 5, 6, 7] (by decide) rfl
            obtain ⟨z_62, hF⟩ := jv_gi hF
            subst hQ
            obtain rfl := Option.some.inj hF
            exact W.zret (v := o_145.1) hx hb hr (jv_zn z_62).1 (fun t ht hW => ⟨⟨o_145.1, (), rfl, rfl, by rw [ht]; exact hP, va_K.moved hW.alike hK, hD⟩, hS.F ht⟩) hS.2.2 dd_E_takeRowLine_148
        · have hF := jv_f c_50 hF
          refine lv_aload_n hx hb dd_E_takeRowLine_103 rfl (lv_at hl 0 rfl) ?_
          refine va_get (D := (dC, dI)) (ci := 4) (v := .ref h3) (C := cn_E) (T := tt_E) (N := 3) hx hb ht in_E hown hK hP 0 rfl rfl 1 (by decide) (ht _ tw_2_137) (fun _ h9 => h9) rfl dd_E_takeRowLine_104 ?_
          refine lv_bipush (v := 6) hx hb dd_E_takeRowLine_107 (by decide) ?_
          refine lv_aload_n hx hb dd_E_takeRowLine_109 rfl (lv_at hl 0 rfl) ?_
          refine va_get (D := (dC, dI)) (ci := 4) (v := .ref h1) (C := cn_E) (T := tt_E) (N := 3) hx hb ht in_E hown hK hP 0 rfl rfl 0 (by decide) (ht _ tw_2_136) (fun _ h9 => h9) rfl dd_E_takeRowLine_110 ?_
          obtain ⟨o_113, ho_113, hF⟩ := jv_bi hF
          refine jv_ml (wr := [(h0, .inr (4, [.ref h1, .ref h3, .int sg])), (h3, .inr (0, [.ref h4, .ref h5, .ref h6, .ref h7, .int ct, .int lo, .int oc])), (h4, .inl (cI, 24, .inl kd)), (h5, .inl (cI, 24, .inl dp)), (h6, .inl (cI, 24, .inl su)), (h7, .inl (cL, 24, .inr (.inl nm)))]) (w1 := [(h1, .inr (3, [.ref h2, .int cz, .int o_113.2, .int le])), (h2, .inl (cC, 3000, .inl ch))]) (va_runV (C := cn_C) (As := []) (rest := [.int 6, .ref h3]) ⟨hx, hb, hml, hown, ht⟩ (c_C_takeName l dC dI cI cL cC cZ h1 h2 H_48.size cz o_97.2 le ch _ ho_113) (cwV 0 ht (gi_V tw_2_194 tw_2_195 tw_2_196 tw_1_12 tw_2_197) rfl rfl rfl (by decide +kernel) ⟨Nat.le_of_ble_eq_true rfl, Nat.le_of_ble_eq_true rfl⟩) (jv_pv hK hP hD [1, 2] rfl (by decide) rfl (va_recv hK hP (ci := 3) (q0 := 1) rfl rfl)) rfl rfl hl.1 rfl (lv_room (Nat.le_of_ble_eq_true rfl)) dd_E_takeRowLine_113 ⟨Nat.le_of_ble_eq_true rfl, Nat.le_of_ble_eq_true rfl⟩) hP hD hS hA [1, 2] [0, 3, 4, 5, 6, 7] rfl rfl (by decide) (by decide) (fun H_63 locs_64 hP hD hS => ?_)
          have hP : va_P (dC, dI) vwCl [(h0, .inr (4, [.ref h1, .ref h3, .int sg])), (h1, .inr (3, [.ref h2, .int cz, .int o_113.2, .int le])), (h2, .inl (cC, 3000, .inl ch)), (h3, .inr (0, [.ref h4, .ref h5, .ref h6, .ref h7, .int ct, .int lo, .int oc])), (h4, .inl (cI, 24, .inl kd)), (h5, .inl (cI, 24, .inl dp)), (h6, .inl (cI, 24, .inl su)), (h7, .inl (cL, 24, .inr (.inl nm)))] H_63 := hP.sub [0, 6, 7, 1, 2, 3, 4, 5] rfl
          have hD : va_D A [(h0, .inr (4, [.ref h1, .ref h3, .int sg])), (h1, .inr (3, [.ref h2, .int cz, .int o_113.2, .int le])), (h2, .inl (cC, 3000, .inl ch)), (h3, .inr (0, [.ref h4, .ref h5, .ref h6, .ref h7, .int ct, .int lo, .int oc])), (h4, .inl (cI, 24, .inl kd)), (h5, .inl (cI, 24, .inl dp)), (h6, .inl (cI, 24, .inl su)), (h7, .inl (cL, 24, .inr (.inl nm)))] := hD.sub [0, 6, 7, 1, 2, 3, 4, 5] (by decide) rfl
          obtain ⟨o_116, ho_116, hF⟩ := jv_bi hF
          refine jv_mi (wr := [(h0, .inr (4, [.ref h1, .ref h3, .int sg])), (h1, .inr (3, [.ref h2, .int cz, .int o_113.2, .int le])), (h2, .inl (cC, 3000, .inl ch))]) (w1 := [(h3, .inr (0, [.ref h4, .ref h5, .ref h6, .ref h7, .int o_116.2.1, .int o_116.2.2.1, .int o_116.2.2.2.1])), (h4, .inl (cI, 24, .inl o_116.2.2.2.2.1)), (h5, .inl (cI, 24, .inl o_116.2.2.2.2.2.1)), (h6, .inl (cI, 24, .inl o_116.2.2.2.2.2.2.1)), (h7, .inl (cL, 24, .inr (.inl o_116.2.2.2.2.2.2.2)))]) (va_runV (C := cn_R) (As := [.int 6, .long o_113.1]) (rest := []) ⟨hx, hb, hml, hown, ht⟩ (c_R_addNode l dC dI cI cL cC cZ h3 h4 h5 h6 h7 H_63.size ct lo oc kd dp su nm 6 o_113.1 _ ho_116) (cwV 2 ht (gi_V tw_2_203 tw_1_103 tw_1_104 tw_1_3 tw_1_105) rfl rfl rfl (by decide +kernel) ⟨Nat.le_of_ble_eq_true rfl, Nat.le_of_ble_eq_true rfl⟩) (jv_pv hK hP hD [3, 4, 5, 6, 7] rfl (by decide) rfl (va_recv hK hP (ci := 0) (q0 := 3) rfl rfl)) rfl rfl hl.1 rfl (lv_room (Nat.le_of_ble_eq_true rfl)) dd_E_takeRowLine_116 ⟨Nat.le_of_ble_eq_true rfl, Nat.le_of_ble_eq_true rfl⟩) hP hD hS hA [3, 4, 5, 6, 7] [0, 1, 2] rfl rfl (by decide) (by decide) (fun H_65 locs_66 hP hD hS => ?_)
          have hP : va_P (dC, dI) vwCl [(h0, .inr (4, [.ref h1, .ref h3, .int sg])), (h1, .inr (3, [.ref h2, .int cz, .int o_113.2, .int le])), (h2, .inl (cC, 3000, .inl ch)), (h3, .inr (0, [.ref h4, .ref h5, .ref h6, .ref h7, .int o_116.2.1, .int o_116.2.2.1, .int o_116.2.2.2.1])), (h4, .inl (cI, 24, .inl o_116.2.2.2.2.1)), (h5, .inl (cI, 24, .inl o_116.2.2.2.2.2.1)), (h6, .inl (cI, 24, .inl o_116.2.2.2.2.2.2.1)), (h7, .inl (cL, 24, .inr (.inl o_116.2.2.2.2.2.2.2)))] H_65 := hP.sub [0, 1, 2, 3, 4, 5, 6, 7] rfl
          have hD : va_D A [(h0, .inr (4, [.ref h1, .ref h3, .int sg])), (h1, .inr (3, [.ref h2, .int cz, .int o_113.2, .int le])), (h2, .inl (cC, 3000, .inl ch)), (h3, .inr (0, [.ref h4, .ref h5, .ref h6, .ref h7, .int o_116.2.1, .int o_116.2.2.1, .int o_116.2.2.2.1])), (h4, .inl (cI, 24, .inl o_116.2.2.2.2.1)), (h5, .inl (cI, 24, .inl o_116.2.2.2.2.2.1)), (h6, .inl (cI, 24, .inl o_116.2.2.2.2.2.2.1)), (h7, .inl (cL, 24, .inr (.inl o_116.2.2.2.2.2.2.2)))] := hD.sub [0, 1, 2, 3, 4, 5, 6, 7] (by decide) rfl
          refine lv_if_lt (tgt := 126) hx hb dd_E_takeRowLine_119 (by decide) (fun c_67 => ?_) (fun c_67 => ?_)
          · have hF := jv_t c_67 hF
            refine lv_iconst (v := 0) hx hb dd_E_takeRowLine_126 (by decide) ?_
            subst hQ
            obtain rfl := Option.some.inj hF
            exact W.zret (v := 0) hx hb hr rfl (fun t ht hW => ⟨⟨0, (), rfl, rfl, by rw [ht]; exact hP, va_K.moved hW.alike hK, hD⟩, hS.F ht⟩) hS.2.2 dd_E_takeRowLine_127
          · have hF := jv_f c_67 hF
            refine lv_iconst (v := 1) hx hb dd_E_takeRowLine_122 (by decide) ?_
            refine lv_goto (tgt := 127) hx hb dd_E_takeRowLine_123 (by decide) ?_
            subst hQ
            obtain rfl := Option.some.inj hF
            exact W.zret (v := 1) hx hb hr rfl (fun t ht hW => ⟨⟨1, (), rfl, rfl, by rw [ht]; exact hP, va_K.moved hW.alike hK, hD⟩, hS.F ht⟩) hS.2.2 dd_E_takeRowLine_127
      · have hF := jv_f c_47 hF
        refine lv_aload_n hx hb dd_E_takeRowLine_56 rfl (lv_at hl 0 rfl) ?_
        refine lv_iload_n hx hb dd_E_takeRowLine_57 rfl (lv_at hl 1 rfl) ?_
        refine lv_if_le (tgt := 65) hx hb dd_E_takeRowLine_58 (by decide) (fun c_68 => ?_) (fun c_68 => ?_)
        · have hF := jv_t c_68 hF
          refine lv_iconst (v := 3) hx hb dd_E_takeRowLine_65 (by decide) ?_
          exact bl66 sg o_50.2 ct lo oc kd dp su nm 3 hF H_45 locs_46 hP hD hS ls (lv_sub hl [0] rfl)
        · have hF := jv_f c_68 hF
          refine lv_iconst (v := 2) hx hb dd_E_takeRowLine_61 (by decide) ?_
          refine lv_goto (tgt := 66) hx hb dd_E_takeRowLine_62 (by decide) ?_
          exact bl66 sg o_50.2 ct lo oc kd dp su nm 2 hF H_45 locs_46 hP hD hS ls (lv_sub hl [0] rfl)
    · have hF := jv_t c_44 hF
      refine lv_iconst (v := 0) hx hb dd_E_takeRowLine_42 (by decide) ?_
      subst hQ
      obtain rfl := Option.some.inj hF
      exact W.zret (v := 0) hx hb hr rfl (fun t ht hW => ⟨⟨0, (), rfl, rfl, by rw [ht]; exact hP, va_K.moved hW.alike hK, hD⟩, hS.F ht⟩) hS.2.2 dd_E_takeRowLine_43
  unfold fn_E_takeRowLine at hF
  refine lv_aload_n hx hb dd_E_takeRowLine_0 rfl (lv_at hl 0 rfl) ?_
  refine va_get (D := (dC, dI)) (ci := 4) (v := .ref h3) (C := cn_E) (T := tt_E) (N := 3) hx hb ht in_E hown hK hP 0 rfl rfl 1 (by decide) (ht _ tw_2_137) (fun _ h9 => h9) rfl dd_E_takeRowLine_1 ?_
  obtain ⟨o_4, ho_4, hF⟩ := jv_bi hF
  refine jv_ci (va_runV (C := cn_R) (As := []) (rest := []) ⟨hx, hb, hml, hown, ht⟩ (c_R_openSuites l dC dI cI cL cC cZ h3 h4 h5 h6 h7 s.heap.size ct lo oc kd dp su nm _ ho_4) (cwV 0 ht (gi_V tw_2_174 tw_2_94 tw_2_95 tw_1_3 tw_2_96) rfl rfl rfl (by decide +kernel) ⟨Nat.le_of_ble_eq_true rfl, Nat.le_of_ble_eq_true rfl⟩) (jv_pv hK hP hD [3, 4, 5, 6, 7] rfl (by decide) rfl (va_recv hK hP (ci := 0) (q0 := 3) rfl rfl)) rfl rfl hl.1 rfl (lv_room (Nat.le_of_ble_eq_true rfl)) dd_E_takeRowLine_4 ⟨Nat.le_of_ble_eq_true rfl, Nat.le_of_ble_eq_true rfl⟩) ?_
  refine lv_istore_n (lv' := [(1, .int o_4), (0, .ref h0)]) hx hb dd_E_takeRowLine_7 rfl hl (by decide) rfl (fun ls hl => ?_)
  refine lv_iload_n hx hb dd_E_takeRowLine_8 rfl (lv_at hl 0 rfl) ?_
  refine lv_if_le (tgt := 31) hx hb dd_E_takeRowLine_9 (by decide) (fun c_69 => ?_) (fun c_69 => ?_)
  · have hF := jv_t c_69 hF
    exact bl31 sg sp ct lo oc kd dp su nm o_4 hF s.heap [] hP hD hS ls (lv_sub hl [1, 0] rfl)
  · have hF := jv_f c_69 hF
    refine lv_aload_n hx hb dd_E_takeRowLine_12 rfl (lv_at hl 1 rfl) ?_
    refine va_get (D := (dC, dI)) (ci := 4) (v := .ref h1) (C := cn_E) (T := tt_E) (N := 3) hx hb ht in_E hown hK hP 0 rfl rfl 0 (by decide) (ht _ tw_2_136) (fun _ h9 => h9) rfl dd_E_takeRowLine_13 ?_
    refine va_ldcS hx hb hown (sk_R (k := 2) hV rfl) dd_E_takeRowLine_16 ?_
    obtain ⟨o_18, ho_18, hF⟩ := jv_bi hF
    refine jv_mi (wr := [(h0, .inr (4, [.ref h1, .ref h3, .int sg])), (h3, .inr (0, [.ref h4, .ref h5, .ref h6, .ref h7, .int ct, .int lo, .int oc])), (h4, .inl (cI, 24, .inl kd)), (h5, .inl (cI, 24, .inl dp)), (h6, .inl (cI, 24, .inl su)), (h7, .inl (cL, 24, .inr (.inl nm)))]) (w1 := [(h1, .inr (3, [.ref h2, .int cz, .int o_18.2, .int le])), (h2, .inl (cC, 3000, .inl ch))]) (va_runV (C := cn_C) (As := [.ref (adK 9)]) (rest := []) ⟨hx, hb, hml, hown, ht⟩ (c_C_skipText l dC dI cI cL cC cZ adK adV h1 h2 s.heap.size cz sp le ch 9 _ ho_18) (cwV 1 ht (gi_V tw_2_164 tw_2_165 tw_2_166 tw_1_12 tw_2_167) rfl rfl rfl (by decide +kernel) ⟨Nat.le_of_ble_eq_true rfl, Nat.le_of_ble_eq_true rfl⟩) (jv_sv hK hP hD hS hA hV [1, 2] rfl (by decide) rfl (va_recv hK hP (ci := 3) (q0 := 1) rfl rfl)) rfl rfl hl.1 rfl (lv_room (Nat.le_of_ble_eq_true rfl)) dd_E_takeRowLine_18 ⟨Nat.le_of_ble_eq_true rfl, Nat.le_of_ble_eq_true rfl⟩) hP hD hS hA [1, 2] [0, 3, 4, 5, 6, 7] rfl rfl (by decide) (by decide) (fun H_70 locs_71 hP hD hS => ?_)
    have hP : va_P (dC, dI) vwCl [(h0, .inr (4, [.ref h1, .ref h3, .int sg])), (h1, .inr (3, [.ref h2, .int cz, .int o_18.2, .int le])), (h2, .inl (cC, 3000, .inl ch)), (h3, .inr (0, [.ref h4, .ref h5, .ref h6, .ref h7, .int ct, .int lo, .int oc])), (h4, .inl (cI, 24, .inl kd)), (h5, .inl (cI, 24, .inl dp)), (h6, .inl (cI, 24, .inl su)), (h7, .inl (cL, 24, .inr (.inl nm)))] H_70 := hP.sub [0, 6, 7, 1, 2, 3, 4, 5] rfl
    have hD : va_D A [(h0, .inr (4, [.ref h1, .ref h3, .int sg])), (h1, .inr (3, [.ref h2, .int cz, .int o_18.2, .int le])), (h2, .inl (cC, 3000, .inl ch)), (h3, .inr (0, [.ref h4, .ref h5, .ref h6, .ref h7, .int ct, .int lo, .int oc])), (h4, .inl (cI, 24, .inl kd)), (h5, .inl (cI, 24, .inl dp)), (h6, .inl (cI, 24, .inl su)), (h7, .inl (cL, 24, .inr (.inl nm)))] := hD.sub [0, 6, 7, 1, 2, 3, 4, 5] (by decide) rfl
    refine lv_if_eq (tgt := 31) hx hb dd_E_takeRowLine_21 (by decide) (fun c_72 => ?_) (fun c_72 => ?_)
    · have hF := jv_t c_72 hF
      exact bl31 sg o_18.2 ct lo oc kd dp su nm o_4 hF H_70 locs_71 hP hD hS ls (lv_sub hl [1, 0] rfl)
    · have hF := jv_f c_72 hF
      refine lv_aload_n hx hb dd_E_takeRowLine_24 rfl (lv_at hl 1 rfl) ?_
      refine lv_iconst (v := 3) hx hb dd_E_takeRowLine_25 (by decide) ?_
      refine va_put (D := (dC, dI)) (ci := 4) (v := .int 3) (ty := .int) (C := cn_E) (T := tt_E) (N := 3) hx hb ht in_E ty_E tyok_E nm_E hown hK hP hD hS 0 rfl rfl 2 (by decide) (ht _ tw_2_138) (fun _ h9 => h9) rfl (by decide +kernel) rfl rfl (Nat.le_of_ble_eq_true rfl) dd_E_takeRowLine_26 (fun H_73 locs_74 hP hD hS => ?_)
      have hP : va_P (dC, dI) vwCl [(h0, .inr (4, [.ref h1, .ref h3, .int 3])), (h1, .inr (3, [.ref h2, .int cz, .int o_18.2, .int le])), (h2, .inl (cC, 3000, .inl ch)), (h3, .inr (0, [.ref h4, .ref h5, .ref h6, .ref h7, .int ct, .int lo, .int oc])), (h4, .inl (cI, 24, .inl kd)), (h5, .inl (cI, 24, .inl dp)), (h6, .inl (cI, 24, .inl su)), (h7, .inl (cL, 24, .inr (.inl nm)))] H_73 := hP
      have hD : va_D A [(h0, .inr (4, [.ref h1, .ref h3, .int 3])), (h1, .inr (3, [.ref h2, .int cz, .int o_18.2, .int le])), (h2, .inl (cC, 3000, .inl ch)), (h3, .inr (0, [.ref h4, .ref h5, .ref h6, .ref h7, .int ct, .int lo, .int oc])), (h4, .inl (cI, 24, .inl kd)), (h5, .inl (cI, 24, .inl dp)), (h6, .inl (cI, 24, .inl su)), (h7, .inl (cL, 24, .inr (.inl nm)))] := hD
      refine lv_iconst (v := 1) hx hb dd_E_takeRowLine_29 (by decide) ?_
      subst hQ
      obtain rfl := Option.some.inj hF
      exact W.zret (v := 1) hx hb hr rfl (fun t ht hW => ⟨⟨1, (), rfl, rfl, by rw [ht]; exact hP, va_K.moved hW.alike hK, hD⟩, hS.F ht⟩) hS.2.2 dd_E_takeRowLine_30
set_option maxHeartbeats 40000000 in
set_option maxRecDepth 100000 in
theorem c_E_takeLine (l : Launch) (dC : Nat → ClassId) (dI : Nat → Nat → Nat) (cI cL cC cZ : ClassId) (adK adV : Nat → Nat) (h0 h1 h2 h3 h4 h5 h6 h7 : Nat) (sz : Nat) (sg : Int32) (cz : Int32) (sp : Int32) (le : Int32) (ch : Nat → Int32) (ct : Int32) (lo : Int32) (oc : Int32) (kd : Nat → Int32) (dp : Nat → Int32) (su : Nat → Int32) (nm : Nat → Int64)  (out : Int32 × Int32 × Int32 × Int32 × Int32 × Int32 × (Nat → Int32) × (Nat → Int32) × (Nat → Int32) × (Nat → Int64)) (hF : fn_E_takeLine le ch sg sp ct lo oc kd dp su nm = some out) : Met l yy_E_takeLine ws_E_takeLine { frames := 7, cells := 0, slots := 0, locals := 155 } (mS_ adK adV (dC, dI) (tk_ cI cL cC cZ) [(h0, .inr (4, [.ref h1, .ref h3, .int sg])), (h1, .inr (3, [.ref h2, .int cz, .int sp, .int le])), (h2, .inl (cC, 3000, .inl ch)), (h3, .inr (0, [.ref h4, .ref h5, .ref h6, .ref h7, .int ct, .int lo, .int oc])), (h4, .inl (cI, 24, .inl kd)), (h5, .inl (cI, 24, .inl dp)), (h6, .inl (cI, 24, .inl su)), (h7, .inl (cL, 24, .inr (.inl nm)))] sz [.ref h0]) (va_Qi (fun r (_ : Unit) => r = out.1) (mB_ (dC, dI) (tk_ cI cL cC cZ) [(h0, .inr (4, [.ref h1, .ref h3, .int out.2.1])), (h1, .inr (3, [.ref h2, .int cz, .int out.2.2.1, .int le])), (h2, .inl (cC, 3000, .inl ch)), (h3, .inr (0, [.ref h4, .ref h5, .ref h6, .ref h7, .int out.2.2.2.1, .int out.2.2.2.2.1, .int out.2.2.2.2.2.1])), (h4, .inl (cI, 24, .inl out.2.2.2.2.2.2.1)), (h5, .inl (cI, 24, .inl out.2.2.2.2.2.2.2.1)), (h6, .inl (cI, 24, .inl out.2.2.2.2.2.2.2.2.1)), (h7, .inl (cL, 24, .inr (.inl out.2.2.2.2.2.2.2.2.2)))] (va_A [(h0, .inr (4, [.ref h1, .ref h3, .int sg])), (h1, .inr (3, [.ref h2, .int cz, .int sp, .int le])), (h2, .inl (cC, 3000, .inl ch)), (h3, .inr (0, [.ref h4, .ref h5, .ref h6, .ref h7, .int ct, .int lo, .int oc])), (h4, .inl (cI, 24, .inl kd)), (h5, .inl (cI, 24, .inl dp)), (h6, .inl (cI, 24, .inl su)), (h7, .inl (cL, 24, .inr (.inl nm)))] sz)) (va_A [(h0, .inr (4, [.ref h1, .ref h3, .int sg])), (h1, .inr (3, [.ref h2, .int cz, .int sp, .int le])), (h2, .inl (cC, 3000, .inl ch)), (h3, .inr (0, [.ref h4, .ref h5, .ref h6, .ref h7, .int ct, .int lo, .int oc])), (h4, .inl (cI, 24, .inl kd)), (h5, .inl (cI, 24, .inl dp)), (h6, .inl (cI, 24, .inl su)), (h7, .inl (cL, 24, .inr (.inl nm)))] sz)) 0 0 (va_A [(h0, .inr (4, [.ref h1, .ref h3, .int sg])), (h1, .inr (3, [.ref h2, .int cz, .int sp, .int le])), (h2, .inl (cC, 3000, .inl ch)), (h3, .inr (0, [.ref h4, .ref h5, .ref h6, .ref h7, .int ct, .int lo, .int oc])), (h4, .inl (cI, 24, .inl kd)), (h5, .inl (cI, 24, .inl dp)), (h6, .inl (cI, 24, .inl su)), (h7, .inl (cL, 24, .inr (.inl nm)))] sz) := by
  refine Met.ofW (cc := cc_E_takeLine) (maxL := 1) (ret := (some .boolean)) (by decide) rfl ?_
  intro p e s m args below meth c s₁ B hml hv
  obtain ⟨hargs, hsz, hP, hK, hD0, hV⟩ := hv
  have hx := B.exec
  have hb := B.bytes
  have hr := B.returns
  have hts := atoms_spec (ws := ws_E_takeLine) B.pre
  have ht : ∀ w ∈ TB_, w.before args s = true := fun w h => hts w (List.mem_cons_of_mem _ h)
  have hown : s.vm.findClass cn_E = some m.cls := findClass_of_methodNamed B.named
  have hlocks := B.notSynchronized
  subst hsz
  have hD := hD0.self (sz := s.heap.size)
  generalize hAe : va_A [(h0, .inr (4, [.ref h1, .ref h3, .int sg])), (h1, .inr (3, [.ref h2, .int cz, .int sp, .int le])), (h2, .inl (cC, 3000, .inl ch)), (h3, .inr (0, [.ref h4, .ref h5, .ref h6, .ref h7, .int ct, .int lo, .int oc])), (h4, .inl (cI, 24, .inl kd)), (h5, .inl (cI, 24, .inl dp)), (h6, .inl (cI, 24, .inl su)), (h7, .inl (cL, 24, .inr (.inl nm)))] s.heap.size = A at hD ⊢ hV
  have hA : ∀ q : Nat, s.heap.size ≤ q → A q := fun q h => by rw [← hAe]; exact Or.inr h
  have hS : va_S A s.heap s.heap [] := va_S.rf
  have hP : va_P (dC, dI) vwCl [(h0, .inr (4, [.ref h1, .ref h3, .int sg])), (h1, .inr (3, [.ref h2, .int cz, .int sp, .int le])), (h2, .inl (cC, 3000, .inl ch)), (h3, .inr (0, [.ref h4, .ref h5, .ref h6, .ref h7, .int ct, .int lo, .int oc])), (h4, .inl (cI, 24, .inl kd)), (h5, .inl (cI, 24, .inl dp)), (h6, .inl (cI, 24, .inl su)), (h7, .inl (cL, 24, .inr (.inl nm)))] s.heap := hP
  have hl := lv_entry [.ref h0] (n := 1) (Nat.le_of_ble_eq_true rfl)
  have he : entryFrame m args 1 = _ := (congrArg (fun a => entryFrame m a 1) hargs).trans (lg_entry_eq m [.ref h0] 1)
  rw [he]
  generalize (lg_sl [.ref h0] ++ List.replicate (1 - (lg_sl [.ref h0]).length) Slot.unset).toArray = ls at hl ⊢
  have hl : lv_has ls 1 [(0, .ref h0)] := hl
  generalize hQ : MQ below _ args s _ _ _ = Q
  unfold fn_E_takeLine at hF
  refine lv_aload_n hx hb dd_E_takeLine_0 rfl (lv_at hl 0 rfl) ?_
  refine va_get (D := (dC, dI)) (ci := 4) (v := .int sg) (C := cn_E) (T := tt_E) (N := 3) hx hb ht in_E hown hK hP 0 rfl rfl 2 (by decide) (ht _ tw_2_138) (fun _ h9 => h9) rfl dd_E_takeLine_1 ?_
  by_cases c_14 : sg = 0
  · have hF := jv_t c_14 hF
    refine lv_tableIn (tgt := 32) hx hb dd_E_takeLine_4 (by rw [c_14]; decide) (by rw [c_14]; decide) (by rw [c_14]; rfl) (by decide) ?_
    refine lv_aload_n hx hb dd_E_takeLine_32 rfl (lv_at hl 0 rfl) ?_
    refine lv_iconst (v := 1) hx hb dd_E_takeLine_33 (by decide) ?_
    refine va_put (D := (dC, dI)) (ci := 4) (v := .int 1) (ty := .int) (C := cn_E) (T := tt_E) (N := 3) hx hb ht in_E ty_E tyok_E nm_E hown hK hP hD hS 0 rfl rfl 2 (by decide) (ht _ tw_2_138) (fun _ h9 => h9) rfl (by decide +kernel) rfl rfl (Nat.le_of_ble_eq_true rfl) dd_E_takeLine_34 (fun H_15 locs_16 hP hD hS => ?_)
    have hP : va_P (dC, dI) vwCl [(h0, .inr (4, [.ref h1, .ref h3, .int 1])), (h1, .inr (3, [.ref h2, .int cz, .int sp, .int le])), (h2, .inl (cC, 3000, .inl ch)), (h3, .inr (0, [.ref h4, .ref h5, .ref h6, .ref h7, .int ct, .int lo, .int oc])), (h4, .inl (cI, 24, .inl kd)), (h5, .inl (cI, 24, .inl dp)), (h6, .inl (cI, 24, .inl su)), (h7, .inl (cL, 24, .inr (.inl nm)))] H_15 := hP
    have hD : va_D A [(h0, .inr (4, [.ref h1, .ref h3, .int 1])), (h1, .inr (3, [.ref h2, .int cz, .int sp, .int le])), (h2, .inl (cC, 3000, .inl ch)), (h3, .inr (0, [.ref h4, .ref h5, .ref h6, .ref h7, .int ct, .int lo, .int oc])), (h4, .inl (cI, 24, .inl kd)), (h5, .inl (cI, 24, .inl dp)), (h6, .inl (cI, 24, .inl su)), (h7, .inl (cL, 24, .inr (.inl nm)))] := hD
    refine lv_aload_n hx hb dd_E_takeLine_37 rfl (lv_at hl 0 rfl) ?_
    refine va_get (D := (dC, dI)) (ci := 4) (v := .ref h1) (C := cn_E) (T := tt_E) (N := 3) hx hb ht in_E hown hK hP 0 rfl rfl 0 (by decide) (ht _ tw_2_136) (fun _ h9 => h9) rfl dd_E_takeLine_38 ?_
    refine va_ldcS hx hb hown (sk_R (k := 1) hV rfl) dd_E_takeLine_41 ?_
    obtain ⟨o_43, ho_43, hF⟩ := jv_bi hF
    refine jv_mi (wr := [(h0, .inr (4, [.ref h1, .ref h3, .int 1])), (h3, .inr (0, [.ref h4, .ref h5, .ref h6, .ref h7, .int ct, .int lo, .int oc])), (h4, .inl (cI, 24, .inl kd)), (h5, .inl (cI, 24, .inl dp)), (h6, .inl (cI, 24, .inl su)), (h7, .inl (cL, 24, .inr (.inl nm)))]) (w1 := [(h1, .inr (3, [.ref h2, .int cz, .int o_43.2, .int le])), (h2, .inl (cC, 3000, .inl ch))]) (va_runV (C := cn_C) (As := [.ref (adK 0)]) (rest := []) ⟨hx, hb, hml, hown, ht⟩ (c_C_skipText l dC dI cI cL cC cZ adK adV h1 h2 H_15.size cz sp le ch 0 _ ho_43) (cwV 1 ht (gi_V tw_2_164 tw_2_165 tw_2_166 tw_1_12 tw_2_167) rfl rfl rfl (by decide +kernel) ⟨Nat.le_of_ble_eq_true rfl, Nat.le_of_ble_eq_true rfl⟩) (jv_sv hK hP hD hS hA hV [1, 2] rfl (by decide) rfl (va_recv hK hP (ci := 3) (q0 := 1) rfl rfl)) rfl rfl hl.1 rfl (lv_room (Nat.le_of_ble_eq_true rfl)) dd_E_takeLine_43 ⟨Nat.le_of_ble_eq_true rfl, Nat.le_of_ble_eq_true rfl⟩) hP hD hS hA [1, 2] [0, 3, 4, 5, 6, 7] rfl rfl (by decide) (by decide) (fun H_17 locs_18 hP hD hS => ?_)
    have hP : va_P (dC, dI) vwCl [(h0, .inr (4, [.ref h1, .ref h3, .int 1])), (h1, .inr (3, [.ref h2, .int cz, .int o_43.2, .int le])), (h2, .inl (cC, 3000, .inl ch)), (h3, .inr (0, [.ref h4, .ref h5, .ref h6, .ref h7, .int ct, .int lo, .int oc])), (h4, .inl (cI, 24, .inl kd)), (h5, .inl (cI, 24, .inl dp)), (h6, .inl (cI, 24, .inl su)), (h7, .inl (cL, 24, .inr (.inl nm)))] H_17 := hP.sub [0, 6, 7, 1, 2, 3, 4, 5] rfl
    have hD : va_D A [(h0, .inr (4, [.ref h1, .ref h3, .int 1])), (h1, .inr (3, [.ref h2, .int cz, .int o_43.2, .int le])), (h2, .inl (cC, 3000, .inl ch)), (h3, .inr (0, [.ref h4, .ref h5, .ref h6, .ref h7, .int ct, .int lo, .int oc])), (h4, .inl (cI, 24, .inl kd)), (h5, .inl (cI, 24, .inl dp)), (h6, .inl (cI, 24, .inl su)), (h7, .inl (cL, 24, .inr (.inl nm)))] := hD.sub [0, 6, 7, 1, 2, 3, 4, 5] (by decide) rfl
    obtain ⟨z_19, hF⟩ := jv_gi hF
    subst hQ
    obtain rfl := Option.some.inj hF
    exact W.zret (v := o_43.1) hx hb hr (jv_zn z_19).1 (fun t ht hW => ⟨⟨o_43.1, (), rfl, rfl, by rw [ht]; exact hP, va_K.moved hW.alike hK, hD⟩, hS.F ht⟩) hS.2.2 dd_E_takeLine_46
  have hF := jv_f c_14 hF
  by_cases c_20 : sg = 1
  · have hF := jv_t c_20 hF
    refine lv_tableIn (tgt := 47) hx hb dd_E_takeLine_4 (by rw [c_20]; decide) (by rw [c_20]; decide) (by rw [c_20]; rfl) (by decide) ?_
    refine lv_aload_n hx hb dd_E_takeLine_47 rfl (lv_at hl 0 rfl) ?_
    obtain ⟨o_48, ho_48, hF⟩ := jv_bi hF
    refine jv_mi (wr := []) (w1 := [(h0, .inr (4, [.ref h1, .ref h3, .int o_48.2.1])), (h1, .inr (3, [.ref h2, .int cz, .int o_48.2.2.1, .int le])), (h2, .inl (cC, 3000, .inl ch)), (h3, .inr (0, [.ref h4, .ref h5, .ref h6, .ref h7, .int o_48.2.2.2.1, .int o_48.2.2.2.2.1, .int o_48.2.2.2.2.2.1])), (h4, .inl (cI, 24, .inl o_48.2.2.2.2.2.2.1)), (h5, .inl (cI, 24, .inl o_48.2.2.2.2.2.2.2.1)), (h6, .inl (cI, 24, .inl o_48.2.2.2.2.2.2.2.2.1)), (h7, .inl (cL, 24, .inr (.inl o_48.2.2.2.2.2.2.2.2.2)))]) (va_runV (C := cn_E) (As := []) (rest := []) ⟨hx, hb, hml, hown, ht⟩ (c_E_takeRowLine l dC dI cI cL cC cZ adK adV h0 h1 h2 h3 h4 h5 h6 h7 s.heap.size sg cz sp le ch ct lo oc kd dp su nm _ ho_48) (cwV 0 ht (gi_V tw_2_170 tw_2_172 tw_p_9 tw_1_11 tw_2_173) rfl rfl rfl (by decide +kernel) ⟨Nat.le_of_ble_eq_true rfl, Nat.le_of_ble_eq_true rfl⟩) (jv_sv hK hP hD hS hA hV [0, 1, 2, 3, 4, 5, 6, 7] rfl (by decide) rfl (va_recv hK hP (ci := 4) (q0 := 0) rfl rfl)) rfl rfl hl.1 rfl (lv_room (Nat.le_of_ble_eq_true rfl)) dd_E_takeLine_48 ⟨Nat.le_of_ble_eq_true rfl, Nat.le_of_ble_eq_true rfl⟩) hP hD hS hA [0, 1, 2, 3, 4, 5, 6, 7] [] rfl rfl (by decide) (by decide) (fun H_21 locs_22 hP hD hS => ?_)
    have hP : va_P (dC, dI) vwCl [(h0, .inr (4, [.ref h1, .ref h3, .int o_48.2.1])), (h1, .inr (3, [.ref h2, .int cz, .int o_48.2.2.1, .int le])), (h2, .inl (cC, 3000, .inl ch)), (h3, .inr (0, [.ref h4, .ref h5, .ref h6, .ref h7, .int o_48.2.2.2.1, .int o_48.2.2.2.2.1, .int o_48.2.2.2.2.2.1])), (h4, .inl (cI, 24, .inl o_48.2.2.2.2.2.2.1)), (h5, .inl (cI, 24, .inl o_48.2.2.2.2.2.2.2.1)), (h6, .inl (cI, 24, .inl o_48.2.2.2.2.2.2.2.2.1)), (h7, .inl (cL, 24, .inr (.inl o_48.2.2.2.2.2.2.2.2.2)))] H_21 := hP.sub [0, 1, 2, 3, 4, 5, 6, 7] rfl
    have hD : va_D A [(h0, .inr (4, [.ref h1, .ref h3, .int o_48.2.1])), (h1, .inr (3, [.ref h2, .int cz, .int o_48.2.2.1, .int le])), (h2, .inl (cC, 3000, .inl ch)), (h3, .inr (0, [.ref h4, .ref h5, .ref h6, .ref h7, .int o_48.2.2.2.1, .int o_48.2.2.2.2.1, .int o_48.2.2.2.2.2.1])), (h4, .inl (cI, 24, .inl o_48.2.2.2.2.2.2.1)), (h5, .inl (cI, 24, .inl o_48.2.2.2.2.2.2.2.1)), (h6, .inl (cI, 24, .inl o_48.2.2.2.2.2.2.2.2.1)), (h7, .inl (cL, 24, .inr (.inl o_48.2.2.2.2.2.2.2.2.2)))] := hD.sub [0, 1, 2, 3, 4, 5, 6, 7] (by decide) rfl
    obtain ⟨z_23, hF⟩ := jv_gi hF
    subst hQ
    obtain rfl := Option.some.inj hF
    exact W.zret (v := o_48.1) hx hb hr (jv_zn z_23).1 (fun t ht hW => ⟨⟨o_48.1, (), rfl, rfl, by rw [ht]; exact hP, va_K.moved hW.alike hK, hD⟩, hS.F ht⟩) hS.2.2 dd_E_takeLine_51
  have hF := jv_f c_20 hF
  by_cases c_24 : sg = 2
  · have hF := jv_t c_24 hF
    refine lv_tableIn (tgt := 52) hx hb dd_E_takeLine_4 (by rw [c_24]; decide) (by rw [c_24]; decide) (by rw [c_24]; rfl) (by decide) ?_
    refine lv_aload_n hx hb dd_E_takeLine_52 rfl (lv_at hl 0 rfl) ?_
    refine lv_iconst (v := 1) hx hb dd_E_takeLine_53 (by decide) ?_
    refine va_put (D := (dC, dI)) (ci := 4) (v := .int 1) (ty := .int) (C := cn_E) (T := tt_E) (N := 3) hx hb ht in_E ty_E tyok_E nm_E hown hK hP hD hS 0 rfl rfl 2 (by decide) (ht _ tw_2_138) (fun _ h9 => h9) rfl (by decide +kernel) rfl rfl (Nat.le_of_ble_eq_true rfl) dd_E_takeLine_54 (fun H_25 locs_26 hP hD hS => ?_)
    have hP : va_P (dC, dI) vwCl [(h0, .inr (4, [.ref h1, .ref h3, .int 1])), (h1, .inr (3, [.ref h2, .int cz, .int sp, .int le])), (h2, .inl (cC, 3000, .inl ch)), (h3, .inr (0, [.ref h4, .ref h5, .ref h6, .ref h7, .int ct, .int lo, .int oc])), (h4, .inl (cI, 24, .inl kd)), (h5, .inl (cI, 24, .inl dp)), (h6, .inl (cI, 24, .inl su)), (h7, .inl (cL, 24, .inr (.inl nm)))] H_25 := hP
    have hD : va_D A [(h0, .inr (4, [.ref h1, .ref h3, .int 1])), (h1, .inr (3, [.ref h2, .int cz, .int sp, .int le])), (h2, .inl (cC, 3000, .inl ch)), (h3, .inr (0, [.ref h4, .ref h5, .ref h6, .ref h7, .int ct, .int lo, .int oc])), (h4, .inl (cI, 24, .inl kd)), (h5, .inl (cI, 24, .inl dp)), (h6, .inl (cI, 24, .inl su)), (h7, .inl (cL, 24, .inr (.inl nm)))] := hD
    refine lv_aload_n hx hb dd_E_takeLine_57 rfl (lv_at hl 0 rfl) ?_
    obtain ⟨o_58, ho_58, hF⟩ := jv_bi hF
    refine jv_mi (wr := []) (w1 := [(h0, .inr (4, [.ref h1, .ref h3, .int 1])), (h1, .inr (3, [.ref h2, .int cz, .int o_58.2.1, .int le])), (h2, .inl (cC, 3000, .inl ch)), (h3, .inr (0, [.ref h4, .ref h5, .ref h6, .ref h7, .int ct, .int o_58.2.2.1, .int o_58.2.2.2.1])), (h4, .inl (cI, 24, .inl o_58.2.2.2.2)), (h5, .inl (cI, 24, .inl dp)), (h6, .inl (cI, 24, .inl su)), (h7, .inl (cL, 24, .inr (.inl nm)))]) (va_runV (C := cn_E) (As := []) (rest := []) ⟨hx, hb, hml, hown, ht⟩ (c_E_takeSuiteEnd l dC dI cI cL cC cZ adK adV h0 h1 h2 h3 h4 h5 h6 h7 H_25.size 1 cz sp le ch ct lo oc kd dp su nm _ ho_58) (cwV 0 ht (gi_V tw_2_213 tw_2_215 tw_p_13 tw_1_11 tw_2_216) rfl rfl rfl (by decide +kernel) ⟨Nat.le_of_ble_eq_true rfl, Nat.le_of_ble_eq_true rfl⟩) (jv_sv hK hP hD hS hA hV [0, 1, 2, 3, 4, 5, 6, 7] rfl (by decide) rfl (va_recv hK hP (ci := 4) (q0 := 0) rfl rfl)) rfl rfl hl.1 rfl (lv_room (Nat.le_of_ble_eq_true rfl)) dd_E_takeLine_58 ⟨Nat.le_of_ble_eq_true rfl, Nat.le_of_ble_eq_true rfl⟩) hP hD hS hA [0, 1, 2, 3, 4, 5, 6, 7] [] rfl rfl (by decide) (by decide) (fun H_27 locs_28 hP hD hS => ?_)
    have hP : va_P (dC, dI) vwCl [(h0, .inr (4, [.ref h1, .ref h3, .int 1])), (h1, .inr (3, [.ref h2, .int cz, .int o_58.2.1, .int le])), (h2, .inl (cC, 3000, .inl ch)), (h3, .inr (0, [.ref h4, .ref h5, .ref h6, .ref h7, .int ct, .int o_58.2.2.1, .int o_58.2.2.2.1])), (h4, .inl (cI, 24, .inl o_58.2.2.2.2)), (h5, .inl (cI, 24, .inl dp)), (h6, .inl (cI, 24, .inl su)), (h7, .inl (cL, 24, .inr (.inl nm)))] H_27 := hP.sub [0, 1, 2, 3, 4, 5, 6, 7] rfl
    have hD : va_D A [(h0, .inr (4, [.ref h1, .ref h3, .int 1])), (h1, .inr (3, [.ref h2, .int cz, .int o_58.2.1, .int le])), (h2, .inl (cC, 3000, .inl ch)), (h3, .inr (0, [.ref h4, .ref h5, .ref h6, .ref h7, .int ct, .int o_58.2.2.1, .int o_58.2.2.2.1])), (h4, .inl (cI, 24, .inl o_58.2.2.2.2)), (h5, .inl (cI, 24, .inl dp)), (h6, .inl (cI, 24, .inl su)), (h7, .inl (cL, 24, .inr (.inl nm)))] := hD.sub [0, 1, 2, 3, 4, 5, 6, 7] (by decide) rfl
    obtain ⟨z_29, hF⟩ := jv_gi hF
    subst hQ
    obtain rfl := Option.some.inj hF
    exact W.zret (v := o_58.1) hx hb hr (jv_zn z_29).1 (fun t ht hW => ⟨⟨o_58.1, (), rfl, rfl, by rw [ht]; exact hP, va_K.moved hW.alike hK, hD⟩, hS.F ht⟩) hS.2.2 dd_E_takeLine_61
  have hF := jv_f c_24 hF
  refine lv_tableOut (tgt := 62) hx hb dd_E_takeLine_4 (by have n0 := lv_neT c_14 (show (0 : Int32).toInt = 0 from by decide); have n1 := lv_neT c_20 (show (1 : Int32).toInt = 1 from by decide); have n2 := lv_neT c_24 (show (2 : Int32).toInt = 2 from by decide); omega) (by decide) ?_
  refine lv_iconst (v := 0) hx hb dd_E_takeLine_62 (by decide) ?_
  subst hQ
  obtain rfl := Option.some.inj hF
  exact W.zret (v := 0) hx hb hr rfl (fun t ht hW => ⟨⟨0, (), rfl, rfl, by rw [ht]; exact hP, va_K.moved hW.alike hK, hD⟩, hS.F ht⟩) hS.2.2 dd_E_takeLine_63
set_option maxHeartbeats 40000000 in
set_option maxRecDepth 100000 in
theorem c_E_readAll (l : Launch) (dC : Nat → ClassId) (dI : Nat → Nat → Nat) (cI cL cC cZ : ClassId) (adK adV : Nat → Nat) (h0 h1 h2 h3 h4 h5 h6 h7 : Nat) (sz : Nat) (sg : Int32) (cz : Int32) (sp : Int32) (le : Int32) (ch : Nat → Int32) (ct : Int32) (lo : Int32) (oc : Int32) (kd : Nat → Int32) (dp : Nat → Int32) (su : Nat → Int32) (nm : Nat → Int64)  (out : Int32 × Int32 × Int32 × Int32 × Int32 × Int32 × Int32 × (Nat → Int32) × (Nat → Int32) × (Nat → Int32) × (Nat → Int64)) (hF : fn_E_readAll cz ch sg sp le ct lo oc kd dp su nm = some out) : Met l yy_E_readAll ws_E_readAll { frames := 8, cells := 0, slots := 0, locals := 175 } (mS_ adK adV (dC, dI) (tk_ cI cL cC cZ) [(h0, .inr (4, [.ref h1, .ref h3, .int sg])), (h1, .inr (3, [.ref h2, .int cz, .int sp, .int le])), (h2, .inl (cC, 3000, .inl ch)), (h3, .inr (0, [.ref h4, .ref h5, .ref h6, .ref h7, .int ct, .int lo, .int oc])), (h4, .inl (cI, 24, .inl kd)), (h5, .inl (cI, 24, .inl dp)), (h6, .inl (cI, 24, .inl su)), (h7, .inl (cL, 24, .inr (.inl nm)))] sz [.ref h0]) (va_Qi (fun r (_ : Unit) => r = out.1) (mB_ (dC, dI) (tk_ cI cL cC cZ) [(h0, .inr (4, [.ref h1, .ref h3, .int out.2.1])), (h1, .inr (3, [.ref h2, .int cz, .int out.2.2.1, .int out.2.2.2.1])), (h2, .inl (cC, 3000, .inl ch)), (h3, .inr (0, [.ref h4, .ref h5, .ref h6, .ref h7, .int out.2.2.2.2.1, .int out.2.2.2.2.2.1, .int out.2.2.2.2.2.2.1])), (h4, .inl (cI, 24, .inl out.2.2.2.2.2.2.2.1)), (h5, .inl (cI, 24, .inl out.2.2.2.2.2.2.2.2.1)), (h6, .inl (cI, 24, .inl out.2.2.2.2.2.2.2.2.2.1)), (h7, .inl (cL, 24, .inr (.inl out.2.2.2.2.2.2.2.2.2.2)))] (va_A [(h0, .inr (4, [.ref h1, .ref h3, .int sg])), (h1, .inr (3, [.ref h2, .int cz, .int sp, .int le])), (h2, .inl (cC, 3000, .inl ch)), (h3, .inr (0, [.ref h4, .ref h5, .ref h6, .ref h7, .int ct, .int lo, .int oc])), (h4, .inl (cI, 24, .inl kd)), (h5, .inl (cI, 24, .inl dp)), (h6, .inl (cI, 24, .inl su)), (h7, .inl (cL, 24, .inr (.inl nm)))] sz)) (va_A [(h0, .inr (4, [.ref h1, .ref h3, .int sg])), (h1, .inr (3, [.ref h2, .int cz, .int sp, .int le])), (h2, .inl (cC, 3000, .inl ch)), (h3, .inr (0, [.ref h4, .ref h5, .ref h6, .ref h7, .int ct, .int lo, .int oc])), (h4, .inl (cI, 24, .inl kd)), (h5, .inl (cI, 24, .inl dp)), (h6, .inl (cI, 24, .inl su)), (h7, .inl (cL, 24, .inr (.inl nm)))] sz)) 0 0 (va_A [(h0, .inr (4, [.ref h1, .ref h3, .int sg])), (h1, .inr (3, [.ref h2, .int cz, .int sp, .int le])), (h2, .inl (cC, 3000, .inl ch)), (h3, .inr (0, [.ref h4, .ref h5, .ref h6, .ref h7, .int ct, .int lo, .int oc])), (h4, .inl (cI, 24, .inl kd)), (h5, .inl (cI, 24, .inl dp)), (h6, .inl (cI, 24, .inl su)), (h7, .inl (cL, 24, .inr (.inl nm)))] sz) := by
  refine Met.ofW (cc := cc_E_readAll) (maxL := 2) (ret := (some .int)) (by decide) rfl ?_
  intro p e s m args below meth c s₁ B hml hv
  obtain ⟨hargs, hsz, hP, hK, hD0, hV⟩ := hv
  have hx := B.exec
  have hb := B.bytes
  have hr := B.returns
  have hts := atoms_spec (ws := ws_E_readAll) B.pre
  have ht : ∀ w ∈ TB_, w.before args s = true := fun w h => hts w (List.mem_cons_of_mem _ h)
  have hown : s.vm.findClass cn_E = some m.cls := findClass_of_methodNamed B.named
  have hlocks := B.notSynchronized
  subst hsz
  have hD := hD0.self (sz := s.heap.size)
  generalize hAe : va_A [(h0, .inr (4, [.ref h1, .ref h3, .int sg])), (h1, .inr (3, [.ref h2, .int cz, .int sp, .int le])), (h2, .inl (cC, 3000, .inl ch)), (h3, .inr (0, [.ref h4, .ref h5, .ref h6, .ref h7, .int ct, .int lo, .int oc])), (h4, .inl (cI, 24, .inl kd)), (h5, .inl (cI, 24, .inl dp)), (h6, .inl (cI, 24, .inl su)), (h7, .inl (cL, 24, .inr (.inl nm)))] s.heap.size = A at hD ⊢ hV
  have hA : ∀ q : Nat, s.heap.size ≤ q → A q := fun q h => by rw [← hAe]; exact Or.inr h
  have hS : va_S A s.heap s.heap [] := va_S.rf
  have hP : va_P (dC, dI) vwCl [(h0, .inr (4, [.ref h1, .ref h3, .int sg])), (h1, .inr (3, [.ref h2, .int cz, .int sp, .int le])), (h2, .inl (cC, 3000, .inl ch)), (h3, .inr (0, [.ref h4, .ref h5, .ref h6, .ref h7, .int ct, .int lo, .int oc])), (h4, .inl (cI, 24, .inl kd)), (h5, .inl (cI, 24, .inl dp)), (h6, .inl (cI, 24, .inl su)), (h7, .inl (cL, 24, .inr (.inl nm)))] s.heap := hP
  have hl := lv_entry [.ref h0] (n := 2) (Nat.le_of_ble_eq_true rfl)
  have he : entryFrame m args 2 = _ := (congrArg (fun a => entryFrame m a 2) hargs).trans (lg_entry_eq m [.ref h0] 2)
  rw [he]
  generalize (lg_sl [.ref h0] ++ List.replicate (2 - (lg_sl [.ref h0]).length) Slot.unset).toArray = ls at hl ⊢
  have hl : lv_has ls 2 [(0, .ref h0)] := hl
  generalize hQ : MQ below _ args s _ _ _ = Q
  have bl62 : ∀ (sg : Int32) (sp : Int32) (le : Int32) (ct : Int32) (lo : Int32) (oc : Int32) (kd : Nat → Int32) (dp : Nat → Int32) (su : Nat → Int32) (nm : Nat → Int64) (x1 : Int32), fb_E_readAll_62 cz ch  sg sp le ct lo oc kd dp su nm x1 = some out → ∀ (H : Heap) (locs : List Loc), va_P (dC, dI) vwCl [(h0, .inr (4, [.ref h1, .ref h3, .int sg])), (h1, .inr (3, [.ref h2, .int cz, .int sp, .int le])), (h2, .inl (cC, 3000, .inl ch)), (h3, .inr (0, [.ref h4, .ref h5, .ref h6, .ref h7, .int ct, .int lo, .int oc])), (h4, .inl (cI, 24, .inl kd)), (h5, .inl (cI, 24, .inl dp)), (h6, .inl (cI, 24, .inl su)), (h7, .inl (cL, 24, .inr (.inl nm)))] H → va_D A [(h0, .inr (4, [.ref h1, .ref h3, .int sg])), (h1, .inr (3, [.ref h2, .int cz, .int sp, .int le])), (h2, .inl (cC, 3000, .inl ch)), (h3, .inr (0, [.ref h4, .ref h5, .ref h6, .ref h7, .int ct, .int lo, .int oc])), (h4, .inl (cI, 24, .inl kd)), (h5, .inl (cI, 24, .inl dp)), (h6, .inl (cI, 24, .inl su)), (h7, .inl (cL, 24, .inr (.inl nm)))] → va_S A s.heap H locs → ∀ ls : Array Slot, lv_has ls 2 [(0, .ref h0), (1, .int x1)] → W p l e (headSpec ws_E_readAll { frames := 8, cells := 0, slots := 0, locals := 175 }).room s m args below meth c H locs 0 0 Q (F0 m 62 ls []) := by
    intro sg sp le ct lo oc kd dp su nm x1 hF H locs hP hD hS ls hl
    unfold fb_E_readAll_62 at hF
    refine lv_aload_n hx hb dd_E_readAll_62 rfl (lv_at hl 0 rfl) ?_
    refine va_get (D := (dC, dI)) (ci := 4) (v := .int sg) (C := cn_E) (T := tt_E) (N := 3) hx hb ht in_E hown hK hP 0 rfl rfl 2 (by decide) (ht _ tw_2_138) (fun _ h9 => h9) rfl dd_E_readAll_63 ?_
    refine lv_iconst (v := 3) hx hb dd_E_readAll_66 (by decide) ?_
    refine lv_icmp_ne (tgt := 74) hx hb dd_E_readAll_67 (by decide) (fun c_13 => ?_) (fun c_13 => ?_)
    · have hF := jv_f c_13 hF
      refine lv_iload_n hx hb dd_E_readAll_74 rfl (lv_at hl 1 rfl) ?_
      refine lv_ineg hx hb dd_E_readAll_75 ?_
      subst hQ
      obtain rfl := Option.some.inj hF
      exact W.iret (v := -x1) hx hb hr (fun t ht hW => ⟨⟨-x1, (), rfl, rfl, by rw [ht]; exact hP, va_K.moved hW.alike hK, hD⟩, hS.F ht⟩) hS.2.2 dd_E_readAll_76
    · have hF := jv_t c_13 hF
      refine lv_iconst (v := 0) hx hb dd_E_readAll_70 (by decide) ?_
      refine lv_goto (tgt := 76) hx hb dd_E_readAll_71 (by decide) ?_
      subst hQ
      obtain rfl := Option.some.inj hF
      exact W.iret (v := 0) hx hb hr (fun t ht hW => ⟨⟨0, (), rfl, rfl, by rw [ht]; exact hP, va_K.moved hW.alike hK, hD⟩, hS.F ht⟩) hS.2.2 dd_E_readAll_76
  have lp9 : ∀ (n9 : Nat), ∀ (sg : Int32) (sp : Int32) (le : Int32) (ct : Int32) (lo : Int32) (oc : Int32) (kd : Nat → Int32) (dp : Nat → Int32) (su : Nat → Int32) (nm : Nat → Int64) (x1 : Int32), fl_E_readAll_9 cz ch  n9 (sg, sp, le, ct, lo, oc, kd, dp, su, nm, x1) = some out → ∀ (H : Heap) (locs : List Loc), va_P (dC, dI) vwCl [(h0, .inr (4, [.ref h1, .ref h3, .int sg])), (h1, .inr (3, [.ref h2, .int cz, .int sp, .int le])), (h2, .inl (cC, 3000, .inl ch)), (h3, .inr (0, [.ref h4, .ref h5, .ref h6, .ref h7, .int ct, .int lo, .int oc])), (h4, .inl (cI, 24, .inl kd)), (h5, .inl (cI, 24, .inl dp)), (h6, .inl (cI, 24, .inl su)), (h7, .inl (cL, 24, .inr (.inl nm)))] H → va_D A [(h0, .inr (4, [.ref h1, .ref h3, .int sg])), (h1, .inr (3, [.ref h2, .int cz, .int sp, .int le])), (h2, .inl (cC, 3000, .inl ch)), (h3, .inr (0, [.ref h4, .ref h5, .ref h6, .ref h7, .int ct, .int lo, .int oc])), (h4, .inl (cI, 24, .inl kd)), (h5, .inl (cI, 24, .inl dp)), (h6, .inl (cI, 24, .inl su)), (h7, .inl (cL, 24, .inr (.inl nm)))] → va_S A s.heap H locs → ∀ ls : Array Slot, lv_has ls 2 [(0, .ref h0), (1, .int x1)] → W p l e (headSpec ws_E_readAll { frames := 8, cells := 0, slots := 0, locals := 175 }).room s m args below meth c H locs 0 0 Q (F0 m 9 ls []) := by
    intro n9
    induction n9 with
    | zero =>
      intro sg sp le ct lo oc kd dp su nm x1 hF
      exact (jv_no hF).elim
    | succ n9 ih9 =>
      intro sg sp le ct lo oc kd dp su nm x1 hF H locs hP hD hS ls hl
      have hF : fb_E_readAll_9 cz ch  (fl_E_readAll_9 cz ch  n9) sg sp le ct lo oc kd dp su nm x1 = some out := hF
      unfold fb_E_readAll_9 at hF
      refine lv_iload_n hx hb dd_E_readAll_9 rfl (lv_at hl 1 rfl) ?_
      refine lv_sipush (v := 3000) hx hb dd_E_readAll_10 (by decide) ?_
      refine lv_icmp_gt (tgt := 62) hx hb dd_E_readAll_13 (by decide) (fun c_14 => ?_) (fun c_14 => ?_)
      · have hF := jv_t c_14 hF
        exact bl62 sg sp le ct lo oc kd dp su nm x1 hF H locs hP hD hS ls (lv_sub hl [0, 1] rfl)
      · have hF := jv_f c_14 hF
        refine lv_aload_n hx hb dd_E_readAll_16 rfl (lv_at hl 0 rfl) ?_
        refine va_get (D := (dC, dI)) (ci := 4) (v := .ref h1) (C := cn_E) (T := tt_E) (N := 3) hx hb ht in_E hown hK hP 0 rfl rfl 0 (by decide) (ht _ tw_2_136) (fun _ h9 => h9) rfl dd_E_readAll_17 ?_
        obtain ⟨o_20, ho_20, hF⟩ := jv_bi hF
        refine jv_ci (va_runV (C := cn_C) (As := []) (rest := []) ⟨hx, hb, hml, hown, ht⟩ (c_C_isBehindLastLine l dC dI cI cL cC cZ h1 h2 H.size cz sp le ch _ ho_20) (cwV 0 ht (gi_V tw_2_151 tw_2_152 tw_2_153 tw_1_12 tw_2_154) rfl rfl rfl (by decide +kernel) ⟨Nat.le_of_ble_eq_true rfl, Nat.le_of_ble_eq_true rfl⟩) (jv_pv hK hP hD [1, 2] rfl (by decide) rfl (va_recv hK hP (ci := 3) (q0 := 1) rfl rfl)) rfl rfl hl.1 rfl (lv_room (Nat.le_of_ble_eq_true rfl)) dd_E_readAll_20 ⟨Nat.le_of_ble_eq_true rfl, Nat.le_of_ble_eq_true rfl⟩) ?_
        refine lv_if_ne (tgt := 62) hx hb dd_E_readAll_23 (by decide) (fun c_15 => ?_) (fun c_15 => ?_)
        · have hF := jv_f c_15 hF
          exact bl62 sg sp le ct lo oc kd dp su nm x1 hF H locs hP hD hS ls (lv_sub hl [0, 1] rfl)
        · have hF := jv_t c_15 hF
          refine lv_aload_n hx hb dd_E_readAll_26 rfl (lv_at hl 0 rfl) ?_
          refine va_get (D := (dC, dI)) (ci := 4) (v := .ref h1) (C := cn_E) (T := tt_E) (N := 3) hx hb ht in_E hown hK hP 0 rfl rfl 0 (by decide) (ht _ tw_2_136) (fun _ h9 => h9) rfl dd_E_readAll_27 ?_
          obtain ⟨o_30, ho_30, hF⟩ := jv_bi hF
          refine jv_mi (wr := [(h0, .inr (4, [.ref h1, .ref h3, .int sg])), (h3, .inr (0, [.ref h4, .ref h5, .ref h6, .ref h7, .int ct, .int lo, .int oc])), (h4, .inl (cI, 24, .inl kd)), (h5, .inl (cI, 24, .inl dp)), (h6, .inl (cI, 24, .inl su)), (h7, .inl (cL, 24, .inr (.inl nm)))]) (w1 := [(h1, .inr (3, [.ref h2, .int cz, .int o_30.2.1, .int o_30.2.2])), (h2, .inl (cC, 3000, .inl ch))]) (va_runV (C := cn_C) (As := []) (rest := []) ⟨hx, hb, hml, hown, ht⟩ (c_C_goToNextLine l dC dI cI cL cC cZ h1 h2 H.size cz sp le ch _ ho_30) (cwV 0 ht (gi_V tw_2_155 tw_2_156 tw_2_157 tw_1_12 tw_2_158) rfl rfl rfl (by decide +kernel) ⟨Nat.le_of_ble_eq_true rfl, Nat.le_of_ble_eq_true rfl⟩) (jv_pv hK hP hD [1, 2] rfl (by decide) rfl (va_recv hK hP (ci := 3) (q0 := 1) rfl rfl)) rfl rfl hl.1 rfl (lv_room (Nat.le_of_ble_eq_true rfl)) dd_E_readAll_30 ⟨Nat.le_of_ble_eq_true rfl, Nat.le_of_ble_eq_true rfl⟩) hP hD hS hA [1, 2] [0, 3, 4, 5, 6, 7] rfl rfl (by decide) (by decide) (fun H_16 locs_17 hP hD hS => ?_)
          have hP : va_P (dC, dI) vwCl [(h0, .inr (4, [.ref h1, .ref h3, .int sg])), (h1, .inr (3, [.ref h2, .int cz, .int o_30.2.1, .int o_30.2.2])), (h2, .inl (cC, 3000, .inl ch)), (h3, .inr (0, [.ref h4, .ref h5, .ref h6, .ref h7, .int ct, .int lo, .int oc])), (h4, .inl (cI, 24, .inl kd)), (h5, .inl (cI, 24, .inl dp)), (h6, .inl (cI, 24, .inl su)), (h7, .inl (cL, 24, .inr (.inl nm)))] H_16 := hP.sub [0, 6, 7, 1, 2, 3, 4, 5] rfl
          have hD : va_D A [(h0, .inr (4, [.ref h1, .ref h3, .int sg])), (h1, .inr (3, [.ref h2, .int cz, .int o_30.2.1, .int o_30.2.2])), (h2, .inl (cC, 3000, .inl ch)), (h3, .inr (0, [.ref h4, .ref h5, .ref h6, .ref h7, .int ct, .int lo, .int oc])), (h4, .inl (cI, 24, .inl kd)), (h5, .inl (cI, 24, .inl dp)), (h6, .inl (cI, 24, .inl su)), (h7, .inl (cL, 24, .inr (.inl nm)))] := hD.sub [0, 6, 7, 1, 2, 3, 4, 5] (by decide) rfl
          refine lv_if_eq (tgt := 53) hx hb dd_E_readAll_33 (by decide) (fun c_18 => ?_) (fun c_18 => ?_)
          · have hF := jv_t c_18 hF
            refine lv_iload_n hx hb dd_E_readAll_53 rfl (lv_at hl 1 rfl) ?_
            refine lv_ineg hx hb dd_E_readAll_54 ?_
            subst hQ
            obtain rfl := Option.some.inj hF
            exact W.iret (v := -x1) hx hb hr (fun t ht hW => ⟨⟨-x1, (), rfl, rfl, by rw [ht]; exact hP, va_K.moved hW.alike hK, hD⟩, hS.F ht⟩) hS.2.2 dd_E_readAll_55
          · have hF := jv_f c_18 hF
            refine lv_aload_n hx hb dd_E_readAll_36 rfl (lv_at hl 0 rfl) ?_
            obtain ⟨o_37, ho_37, hF⟩ := jv_bi hF
            refine jv_mi (wr := []) (w1 := [(h0, .inr (4, [.ref h1, .ref h3, .int o_37.2.1])), (h1, .inr (3, [.ref h2, .int cz, .int o_37.2.2.1, .int o_30.2.2])), (h2, .inl (cC, 3000, .inl ch)), (h3, .inr (0, [.ref h4, .ref h5, .ref h6, .ref h7, .int o_37.2.2.2.1, .int o_37.2.2.2.2.1, .int o_37.2.2.2.2.2.1])), (h4, .inl (cI, 24, .inl o_37.2.2.2.2.2.2.1)), (h5, .inl (cI, 24, .inl o_37.2.2.2.2.2.2.2.1)), (h6, .inl (cI, 24, .inl o_37.2.2.2.2.2.2.2.2.1)), (h7, .inl (cL, 24, .inr (.inl o_37.2.2.2.2.2.2.2.2.2)))]) (va_runV (C := cn_E) (As := []) (rest := []) ⟨hx, hb, hml, hown, ht⟩ (c_E_takeLine l dC dI cI cL cC cZ adK adV h0 h1 h2 h3 h4 h5 h6 h7 H_16.size sg cz o_30.2.1 o_30.2.2 ch ct lo oc kd dp su nm _ ho_37) (cwV 0 ht (gi_V tw_2_159 tw_2_161 tw_p_8 tw_1_11 tw_2_162) rfl rfl rfl (by decide +kernel) ⟨Nat.le_of_ble_eq_true rfl, Nat.le_of_ble_eq_true rfl⟩) (jv_sv hK hP hD hS hA hV [0, 1, 2, 3, 4, 5, 6, 7] rfl (by decide) rfl (va_recv hK hP (ci := 4) (q0 := 0) rfl rfl)) rfl rfl hl.1 rfl (lv_room (Nat.le_of_ble_eq_true rfl)) dd_E_readAll_37 ⟨Nat.le_of_ble_eq_true rfl, Nat.le_of_ble_eq_true rfl⟩) hP hD hS hA [0, 1, 2, 3, 4, 5, 6, 7] [] rfl rfl (by decide) (by decide) (fun H_19 locs_20 hP hD hS => ?_)
            have hP : va_P (dC, dI) vwCl [(h0, .inr (4, [.ref h1, .ref h3, .int o_37.2.1])), (h1, .inr (3, [.ref h2, .int cz, .int o_37.2.2.1, .int o_30.2.2])), (h2, .inl (cC, 3000, .inl ch)), (h3, .inr (0, [.ref h4, .ref h5, .ref h6, .ref h7, .int o_37.2.2.2.1, .int o_37.2.2.2.2.1, .int o_37.2.2.2.2.2.1])), (h4, .inl (cI, 24, .inl o_37.2.2.2.2.2.2.1)), (h5, .inl (cI, 24, .inl o_37.2.2.2.2.2.2.2.1)), (h6, .inl (cI, 24, .inl o_37.2.2.2.2.2.2.2.2.1)), (h7, .inl (cL, 24, .inr (.inl o_37.2.2.2.2.2.2.2.2.2)))] H_19 := hP.sub [0, 1, 2, 3, 4, 5, 6, 7] rfl
            have hD : va_D A [(h0, .inr (4, [.ref h1, .ref h3, .int o_37.2.1])), (h1, .inr (3, [.ref h2, .int cz, .int o_37.2.2.1, .int o_30.2.2])), (h2, .inl (cC, 3000, .inl ch)), (h3, .inr (0, [.ref h4, .ref h5, .ref h6, .ref h7, .int o_37.2.2.2.1, .int o_37.2.2.2.2.1, .int o_37.2.2.2.2.2.1])), (h4, .inl (cI, 24, .inl o_37.2.2.2.2.2.2.1)), (h5, .inl (cI, 24, .inl o_37.2.2.2.2.2.2.2.1)), (h6, .inl (cI, 24, .inl o_37.2.2.2.2.2.2.2.2.1)), (h7, .inl (cL, 24, .inr (.inl o_37.2.2.2.2.2.2.2.2.2)))] := hD.sub [0, 1, 2, 3, 4, 5, 6, 7] (by decide) rfl
            refine lv_if_eq (tgt := 53) hx hb dd_E_readAll_40 (by decide) (fun c_21 => ?_) (fun c_21 => ?_)
            · have hF := jv_t c_21 hF
              refine lv_iload_n hx hb dd_E_readAll_53 rfl (lv_at hl 1 rfl) ?_
              refine lv_ineg hx hb dd_E_readAll_54 ?_
              subst hQ
              obtain rfl := Option.some.inj hF
              exact W.iret (v := -x1) hx hb hr (fun t ht hW => ⟨⟨-x1, (), rfl, rfl, by rw [ht]; exact hP, va_K.moved hW.alike hK, hD⟩, hS.F ht⟩) hS.2.2 dd_E_readAll_55
            · have hF := jv_f c_21 hF
              refine lv_aload_n hx hb dd_E_readAll_43 rfl (lv_at hl 0 rfl) ?_
              refine va_get (D := (dC, dI)) (ci := 4) (v := .ref h1) (C := cn_E) (T := tt_E) (N := 3) hx hb ht in_E hown hK hP 0 rfl rfl 0 (by decide) (ht _ tw_2_136) (fun _ h9 => h9) rfl dd_E_readAll_44 ?_
              obtain ⟨o_47, ho_47, hF⟩ := jv_bi hF
              refine jv_ci (va_runV (C := cn_C) (As := []) (rest := []) ⟨hx, hb, hml, hown, ht⟩ (c_C_isAtLineEnd l dC dI cI cL cC cZ h1 h2 H_19.size cz o_37.2.2.1 o_30.2.2 ch _ ho_47) (cwV 0 ht (gi_V tw_2_222 tw_2_223 tw_2_224 tw_1_12 tw_2_225) rfl rfl rfl (by decide +kernel) ⟨Nat.le_of_ble_eq_true rfl, Nat.le_of_ble_eq_true rfl⟩) (jv_pv hK hP hD [1, 2] rfl (by decide) rfl (va_recv hK hP (ci := 3) (q0 := 1) rfl rfl)) rfl rfl hl.1 rfl (lv_room (Nat.le_of_ble_eq_true rfl)) dd_E_readAll_47 ⟨Nat.le_of_ble_eq_true rfl, Nat.le_of_ble_eq_true rfl⟩) ?_
              refine lv_if_ne (tgt := 56) hx hb dd_E_readAll_50 (by decide) (fun c_22 => ?_) (fun c_22 => ?_)
              · have hF := jv_f c_22 hF
                refine lv_iinc (v := x1 + 1) (lv' := [(1, .int (x1 + 1)), (0, .ref h0)]) hx hb dd_E_readAll_56 hl (k := 1) rfl rfl (by decide) rfl (fun ls hl => ?_)
                refine lv_goto (tgt := 9) hx hb dd_E_readAll_59 (by decide) ?_
                exact ih9 o_37.2.1 o_37.2.2.1 o_30.2.2 o_37.2.2.2.1 o_37.2.2.2.2.1 o_37.2.2.2.2.2.1 o_37.2.2.2.2.2.2.1 o_37.2.2.2.2.2.2.2.1 o_37.2.2.2.2.2.2.2.2.1 o_37.2.2.2.2.2.2.2.2.2 (x1 + 1) hF H_19 locs_20 hP hD hS ls (lv_sub hl [1, 0] rfl)
              · have hF := jv_t c_22 hF
                refine lv_iload_n hx hb dd_E_readAll_53 rfl (lv_at hl 1 rfl) ?_
                refine lv_ineg hx hb dd_E_readAll_54 ?_
                subst hQ
                obtain rfl := Option.some.inj hF
                exact W.iret (v := -x1) hx hb hr (fun t ht hW => ⟨⟨-x1, (), rfl, rfl, by rw [ht]; exact hP, va_K.moved hW.alike hK, hD⟩, hS.F ht⟩) hS.2.2 dd_E_readAll_55
  unfold fn_E_readAll at hF
  refine lv_aload_n hx hb dd_E_readAll_0 rfl (lv_at hl 0 rfl) ?_
  refine va_get (D := (dC, dI)) (ci := 4) (v := .ref h3) (C := cn_E) (T := tt_E) (N := 3) hx hb ht in_E hown hK hP 0 rfl rfl 1 (by decide) (ht _ tw_2_137) (fun _ h9 => h9) rfl dd_E_readAll_1 ?_
  obtain ⟨o_4, ho_4, hF⟩ := jv_bi hF
  refine jv_mv (wr := [(h0, .inr (4, [.ref h1, .ref h3, .int sg])), (h1, .inr (3, [.ref h2, .int cz, .int sp, .int le])), (h2, .inl (cC, 3000, .inl ch))]) (w1 := [(h3, .inr (0, [.ref h4, .ref h5, .ref h6, .ref h7, .int o_4.1, .int o_4.2.1, .int o_4.2.2])), (h4, .inl (cI, 24, .inl kd)), (h5, .inl (cI, 24, .inl dp)), (h6, .inl (cI, 24, .inl su)), (h7, .inl (cL, 24, .inr (.inl nm)))]) (va_runV (C := cn_R) (As := []) (rest := []) ⟨hx, hb, hml, hown, ht⟩ (c_R_removeAll l dC dI cI cL cC cZ h3 h4 h5 h6 h7 s.heap.size ct lo oc kd dp su nm _ ho_4) (cwV 0 ht (gi_V tw_2_150 tw_1_131 tw_1_132 tw_1_3 tw_1_133) rfl rfl rfl (by decide +kernel) ⟨Nat.le_of_ble_eq_true rfl, Nat.le_of_ble_eq_true rfl⟩) (jv_pv hK hP hD [3, 4, 5, 6, 7] rfl (by decide) rfl (va_recv hK hP (ci := 0) (q0 := 3) rfl rfl)) rfl rfl hl.1 rfl (lv_room (Nat.le_of_ble_eq_true rfl)) dd_E_readAll_4 ⟨Nat.le_of_ble_eq_true rfl, Nat.le_of_ble_eq_true rfl⟩) hP hD hS hA [3, 4, 5, 6, 7] [0, 1, 2] rfl rfl (by decide) (by decide) (fun H_23 locs_24 hP hD hS => ?_)
  have hP : va_P (dC, dI) vwCl [(h0, .inr (4, [.ref h1, .ref h3, .int sg])), (h1, .inr (3, [.ref h2, .int cz, .int sp, .int le])), (h2, .inl (cC, 3000, .inl ch)), (h3, .inr (0, [.ref h4, .ref h5, .ref h6, .ref h7, .int o_4.1, .int o_4.2.1, .int o_4.2.2])), (h4, .inl (cI, 24, .inl kd)), (h5, .inl (cI, 24, .inl dp)), (h6, .inl (cI, 24, .inl su)), (h7, .inl (cL, 24, .inr (.inl nm)))] H_23 := hP.sub [0, 1, 2, 3, 4, 5, 6, 7] rfl
  have hD : va_D A [(h0, .inr (4, [.ref h1, .ref h3, .int sg])), (h1, .inr (3, [.ref h2, .int cz, .int sp, .int le])), (h2, .inl (cC, 3000, .inl ch)), (h3, .inr (0, [.ref h4, .ref h5, .ref h6, .ref h7, .int o_4.1, .int o_4.2.1, .int o_4.2.2])), (h4, .inl (cI, 24, .inl kd)), (h5, .inl (cI, 24, .inl dp)), (h6, .inl (cI, 24, .inl su)), (h7, .inl (cL, 24, .inr (.inl nm)))] := hD.sub [0, 1, 2, 3, 4, 5, 6, 7] (by decide) rfl
  refine lv_iconst (v := 1) hx hb dd_E_readAll_7 (by decide) ?_
  refine lv_istore_n (lv' := [(1, .int 1), (0, .ref h0)]) hx hb dd_E_readAll_8 rfl hl (by decide) rfl (fun ls hl => ?_)
  exact lp9 4000 sg sp le o_4.1 o_4.2.1 o_4.2.2 kd dp su nm 1 hF H_23 locs_24 hP hD hS ls (lv_sub hl [1, 0] rfl)
