set_option maxHeartbeats 40000000 in
set_option maxRecDepth 100000 in
theorem c_C_init (l : Launch) (dC : Nat → ClassId) (dI : Nat → Nat → Nat) (cI cL cC cZ : ClassId) (h0 a1 : Nat) (sz : Nat)  (x2 : Int32) (out : Int32 × Int32 × Int32) (hF : fn_C_init x2 = some out) : Met l yy_C_init ws_C_init { frames := 1, cells := 0, slots := 0, locals := 12 } (mP_ (dC, dI) (tk_ cI cL cC cZ) [(h0, .inr (3, [.null, .int 0, .int 0, .int 0]))] sz [.ref h0, .ref a1, .int x2]) (va_Qv (fun _ : Unit => True) (mB_ (dC, dI) (tk_ cI cL cC cZ) [(h0, .inr (3, [.ref a1, .int out.1, .int out.2.1, .int out.2.2]))] (va_A [(h0, .inr (3, [.null, .int 0, .int 0, .int 0]))] sz)) (va_A [(h0, .inr (3, [.null, .int 0, .int 0, .int 0]))] sz)) 0 0 (va_A [(h0, .inr (3, [.null, .int 0, .int 0, .int 0]))] sz) := by
  refine Met.ofW (cc := cc_C_init) (maxL := 3) (ret := none) (by decide) rfl ?_
  intro p e s m args below meth c s₁ B hml hv
  obtain ⟨hargs, hsz, hP, hK, hD0⟩ := hv
  have hx := B.exec
  have hb := B.bytes
  have hr := B.returns
  have hts := atoms_spec (ws := ws_C_init) B.pre
  have ht : ∀ w ∈ TB_, w.before args s = true := fun w h => hts w (List.mem_cons_of_mem _ h)
  have hown : s.vm.findClass cn_C = some m.cls := findClass_of_methodNamed B.named
  have hlocks := B.notSynchronized
  have hin : meth.name = "<init>" := (name_of_methodNamed B.named B.method).1
  subst hsz
  have hD := hD0.self (sz := s.heap.size)
  generalize hAe : va_A [(h0, .inr (3, [.null, .int 0, .int 0, .int 0]))] s.heap.size = A at hD ⊢
  have hA : ∀ q : Nat, s.heap.size ≤ q → A q := fun q h => by rw [← hAe]; exact Or.inr h
  have hS : va_S A s.heap s.heap [] := va_S.rf
  have hP : va_P (dC, dI) vwCl [(h0, .inr (3, [.null, .int 0, .int 0, .int 0]))] s.heap := hP
  have hl := lv_entry [.ref h0, .ref a1, .int x2] (n := 3) (Nat.le_of_ble_eq_true rfl)
  have he : entryFrame m args 3 = _ := (congrArg (fun a => entryFrame m a 3) hargs).trans (lg_entry_eq m [.ref h0, .ref a1, .int x2] 3)
  rw [he]
  generalize (lg_sl [.ref h0, .ref a1, .int x2] ++ List.replicate (3 - (lg_sl [.ref h0, .ref a1, .int x2]).length) Slot.unset).toArray = ls at hl ⊢
  have hl : lv_has ls 3 [(0, .ref h0), (1, .ref a1), (2, .int x2)] := hl
  generalize hQ : MQ below _ args s _ _ _ = Q
  unfold fn_C_init at hF
  refine lv_aload_n hx hb dd_C_init_0 rfl (lv_at hl 0 rfl) ?_
  refine W.objInit hx hb hown (ht _ tw_2_118) (ht _ tw_1_19) (ht _ tw_1_20) rfl (by rw [hml]; exact hl.1) rfl dd_C_init_1 (Nat.le_of_ble_eq_true rfl) (Nat.le_of_ble_eq_true rfl) ?_
  refine W.eq (g2 := F0 m 4 ls []) rfl ?_
  refine lv_aload_n hx hb dd_C_init_4 rfl (lv_at hl 0 rfl) ?_
  refine lv_iconst (v := 0) hx hb dd_C_init_5 (by decide) ?_
  refine va_put (D := (dC, dI)) (ci := 3) (v := .int 0) (ty := .int) (C := cn_C) (T := tt_C) (N := 4) hx hb ht in_C ty_C tyok_C nm_C hown hK hP hD hS 0 rfl rfl 2 (by decide) (ht _ tw_2_121) (fun _ h9 => h9) rfl (by decide +kernel) rfl rfl (Nat.le_of_ble_eq_true rfl) dd_C_init_6 (fun H_9 locs_10 hP hD hS => ?_)
  have hP : va_P (dC, dI) vwCl [(h0, .inr (3, [.null, .int 0, .int 0, .int 0]))] H_9 := hP
  have hD : va_D A [(h0, .inr (3, [.null, .int 0, .int 0, .int 0]))] := hD
  refine lv_aload_n hx hb dd_C_init_9 rfl (lv_at hl 0 rfl) ?_
  refine lv_iconst (v := (-1)) hx hb dd_C_init_10 (by decide) ?_
  refine va_put (D := (dC, dI)) (ci := 3) (v := .int (-1)) (ty := .int) (C := cn_C) (T := tt_C) (N := 4) hx hb ht in_C ty_C tyok_C nm_C hown hK hP hD hS 0 rfl rfl 3 (by decide) (ht _ tw_2_122) (fun _ h9 => h9) rfl (by decide +kernel) rfl rfl (Nat.le_of_ble_eq_true rfl) dd_C_init_11 (fun H_11 locs_12 hP hD hS => ?_)
  have hP : va_P (dC, dI) vwCl [(h0, .inr (3, [.null, .int 0, .int 0, .int (-1)]))] H_11 := hP
  have hD : va_D A [(h0, .inr (3, [.null, .int 0, .int 0, .int (-1)]))] := hD
  refine lv_aload_n hx hb dd_C_init_14 rfl (lv_at hl 0 rfl) ?_
  refine lv_aload_n hx hb dd_C_init_15 rfl (lv_at hl 1 rfl) ?_
  refine va_putF (D := (dC, dI)) (ci := 3) (v := .ref a1) (ty := (.array .char)) (C := cn_C) (T := tt_C) (N := 4) hx hb ht in_C ty_C tyok_C nm_C hown hK hP hD hS 0 rfl rfl 0 (by decide) (ht _ tw_2_119) (fun _ h9 => h9) rfl hin rfl (by decide +kernel) rfl rfl (Nat.le_of_ble_eq_true rfl) dd_C_init_16 (fun H_13 locs_14 hP hD hS => ?_)
  have hP : va_P (dC, dI) vwCl [(h0, .inr (3, [.ref a1, .int 0, .int 0, .int (-1)]))] H_13 := hP
  have hD : va_D A [(h0, .inr (3, [.ref a1, .int 0, .int 0, .int (-1)]))] := hD
  refine lv_aload_n hx hb dd_C_init_19 rfl (lv_at hl 0 rfl) ?_
  refine lv_iload_n hx hb dd_C_init_20 rfl (lv_at hl 2 rfl) ?_
  refine va_putF (D := (dC, dI)) (ci := 3) (v := .int x2) (ty := .int) (C := cn_C) (T := tt_C) (N := 4) hx hb ht in_C ty_C tyok_C nm_C hown hK hP hD hS 0 rfl rfl 1 (by decide) (ht _ tw_2_120) (fun _ h9 => h9) rfl hin rfl (by decide +kernel) rfl rfl (Nat.le_of_ble_eq_true rfl) dd_C_init_21 (fun H_15 locs_16 hP hD hS => ?_)
  have hP : va_P (dC, dI) vwCl [(h0, .inr (3, [.ref a1, .int x2, .int 0, .int (-1)]))] H_15 := hP
  have hD : va_D A [(h0, .inr (3, [.ref a1, .int x2, .int 0, .int (-1)]))] := hD
  subst hQ
  obtain rfl := Option.some.inj hF
  have hP := hP.sub (ws' := [(h0, .inr (3, [.ref a1, .int x2, .int 0, .int (-1)]))]) [0] rfl
  have hD := hD.sub (ws' := [(h0, .inr (3, [.ref a1, .int x2, .int 0, .int (-1)]))]) [0] (by decide) rfl
  exact W.vret hx hb hr (fun t ht hW => ⟨⟨(), rfl, trivial, by rw [ht]; exact hP, va_K.moved hW.alike hK, hD⟩, hS.F ht⟩) hS.2.2 dd_C_init_24
set_option maxHeartbeats 40000000 in
set_option maxRecDepth 100000 in
theorem c_C_isBehindLastLine (l : Launch) (dC : Nat → ClassId) (dI : Nat → Nat → Nat) (cI cL cC cZ : ClassId) (h0 h1 : Nat) (sz : Nat) (cz : Int32) (sp : Int32) (le : Int32) (ch : Nat → Int32)  (out : Int32) (hF : fn_C_isBehindLastLine cz le = some out) : Met l yy_C_isBehindLastLine ws_C_isBehindLastLine { frames := 0, cells := 0, slots := 0, locals := 0 } (mP_ (dC, dI) (tk_ cI cL cC cZ) [(h0, .inr (3, [.ref h1, .int cz, .int sp, .int le])), (h1, .inl (cC, 3000, .inl ch))] sz [.ref h0]) (vp_Si (fun r => r = out)) 0 0 (fun _ => False) := by
  refine Met.ofW (cc := cc_C_isBehindLastLine) (maxL := 1) (ret := (some .boolean)) (by decide) rfl ?_
  intro p e s m args below meth c s₁ B hml hv
  obtain ⟨hargs, hsz, hP, hK, hD0⟩ := hv
  have hx := B.exec
  have hb := B.bytes
  have hr := B.returns
  have hts := atoms_spec (ws := ws_C_isBehindLastLine) B.pre
  have ht : ∀ w ∈ TB_, w.before args s = true := fun w h => hts w (List.mem_cons_of_mem _ h)
  have hown : s.vm.findClass cn_C = some m.cls := findClass_of_methodNamed B.named
  have hlocks := B.notSynchronized
  subst hsz
  have hD := hD0.self (sz := s.heap.size)
  generalize hAe : va_A [(h0, .inr (3, [.ref h1, .int cz, .int sp, .int le])), (h1, .inl (cC, 3000, .inl ch))] s.heap.size = A at hD
  have hA : ∀ q : Nat, s.heap.size ≤ q → A q := fun q h => by rw [← hAe]; exact Or.inr h
  have hS : va_S A s.heap s.heap [] := va_S.rf
  have hP : va_P (dC, dI) vwCl [(h0, .inr (3, [.ref h1, .int cz, .int sp, .int le])), (h1, .inl (cC, 3000, .inl ch))] s.heap := hP
  have hl := lv_entry [.ref h0] (n := 1) (Nat.le_of_ble_eq_true rfl)
  have he : entryFrame m args 1 = _ := (congrArg (fun a => entryFrame m a 1) hargs).trans (lg_entry_eq m [.ref h0] 1)
  rw [he]
  generalize (lg_sl [.ref h0] ++ List.replicate (1 - (lg_sl [.ref h0]).length) Slot.unset).toArray = ls at hl ⊢
  have hl : lv_has ls 1 [(0, .ref h0)] := hl
  generalize hQ : MQ below _ args s _ _ _ = Q
  unfold fn_C_isBehindLastLine at hF
  refine lv_aload_n hx hb dd_C_isBehindLastLine_0 rfl (lv_at hl 0 rfl) ?_
  refine va_get (D := (dC, dI)) (ci := 3) (v := .int le) (C := cn_C) (T := tt_C) (N := 4) hx hb ht in_C hown hK hP 0 rfl rfl 3 (by decide) (ht _ tw_2_122) (fun _ h9 => h9) rfl dd_C_isBehindLastLine_1 ?_
  refine lv_iconst (v := 1) hx hb dd_C_isBehindLastLine_4 (by decide) ?_
  refine lv_iadd hx hb dd_C_isBehindLastLine_5 ?_
  refine lv_aload_n hx hb dd_C_isBehindLastLine_6 rfl (lv_at hl 0 rfl) ?_
  refine va_get (D := (dC, dI)) (ci := 3) (v := .int cz) (C := cn_C) (T := tt_C) (N := 4) hx hb ht in_C hown hK hP 0 rfl rfl 1 (by decide) (ht _ tw_2_120) (fun _ h9 => h9) rfl dd_C_isBehindLastLine_7 ?_
  refine lv_icmp_lt (tgt := 17) hx hb dd_C_isBehindLastLine_10 (by decide) (fun c_2 => ?_) (fun c_2 => ?_)
  · have hF := jv_t c_2 hF
    refine lv_iconst (v := 0) hx hb dd_C_isBehindLastLine_17 (by decide) ?_
    subst hQ
    exact W.zret (v := 0) hx hb hr rfl (fun t ht hW => ⟨0, rfl, (Option.some.inj hF), ht⟩) (fun _ h => by cases h) dd_C_isBehindLastLine_18
  · have hF := jv_f c_2 hF
    refine lv_iconst (v := 1) hx hb dd_C_isBehindLastLine_13 (by decide) ?_
    refine lv_goto (tgt := 18) hx hb dd_C_isBehindLastLine_14 (by decide) ?_
    subst hQ
    exact W.zret (v := 1) hx hb hr rfl (fun t ht hW => ⟨1, rfl, (Option.some.inj hF), ht⟩) (fun _ h => by cases h) dd_C_isBehindLastLine_18
set_option maxHeartbeats 40000000 in
set_option maxRecDepth 100000 in
theorem c_C_goToNextLine (l : Launch) (dC : Nat → ClassId) (dI : Nat → Nat → Nat) (cI cL cC cZ : ClassId) (h0 h1 : Nat) (sz : Nat) (cz : Int32) (sp : Int32) (le : Int32) (ch : Nat → Int32)  (out : Int32 × Int32 × Int32) (hF : fn_C_goToNextLine cz ch sp le = some out) : Met l yy_C_goToNextLine ws_C_goToNextLine { frames := 0, cells := 0, slots := 0, locals := 0 } (mP_ (dC, dI) (tk_ cI cL cC cZ) [(h0, .inr (3, [.ref h1, .int cz, .int sp, .int le])), (h1, .inl (cC, 3000, .inl ch))] sz [.ref h0]) (va_Qi (fun r (_ : Unit) => r = out.1) (mB_ (dC, dI) (tk_ cI cL cC cZ) [(h0, .inr (3, [.ref h1, .int cz, .int out.2.1, .int out.2.2])), (h1, .inl (cC, 3000, .inl ch))] (va_A [(h0, .inr (3, [.ref h1, .int cz, .int sp, .int le])), (h1, .inl (cC, 3000, .inl ch))] sz)) (va_A [(h0, .inr (3, [.ref h1, .int cz, .int sp, .int le])), (h1, .inl (cC, 3000, .inl ch))] sz)) 0 0 (va_A [(h0, .inr (3, [.ref h1, .int cz, .int sp, .int le])), (h1, .inl (cC, 3000, .inl ch))] sz) := by
  refine Met.ofW (cc := cc_C_goToNextLine) (maxL := 2) (ret := (some .boolean)) (by decide) rfl ?_
  intro p e s m args below meth c s₁ B hml hv
  obtain ⟨hargs, hsz, hP, hK, hD0⟩ := hv
  have hx := B.exec
  have hb := B.bytes
  have hr := B.returns
  have hts := atoms_spec (ws := ws_C_goToNextLine) B.pre
  have ht : ∀ w ∈ TB_, w.before args s = true := fun w h => hts w (List.mem_cons_of_mem _ h)
  have hown : s.vm.findClass cn_C = some m.cls := findClass_of_methodNamed B.named
  have hlocks := B.notSynchronized
  subst hsz
  have hD := hD0.self (sz := s.heap.size)
  generalize hAe : va_A [(h0, .inr (3, [.ref h1, .int cz, .int sp, .int le])), (h1, .inl (cC, 3000, .inl ch))] s.heap.size = A at hD ⊢
  have hA : ∀ q : Nat, s.heap.size ≤ q → A q := fun q h => by rw [← hAe]; exact Or.inr h
  have hS : va_S A s.heap s.heap [] := va_S.rf
  have hP : va_P (dC, dI) vwCl [(h0, .inr (3, [.ref h1, .int cz, .int sp, .int le])), (h1, .inl (cC, 3000, .inl ch))] s.heap := hP
  have hl := lv_entry [.ref h0] (n := 2) (Nat.le_of_ble_eq_true rfl)
  have he : entryFrame m args 2 = _ := (congrArg (fun a => entryFrame m a 2) hargs).trans (lg_entry_eq m [.ref h0] 2)
  rw [he]
  generalize (lg_sl [.ref h0] ++ List.replicate (2 - (lg_sl [.ref h0]).length) Slot.unset).toArray = ls at hl ⊢
  have hl : lv_has ls 2 [(0, .ref h0)] := hl
  generalize hQ : MQ below _ args s _ _ _ = Q
  have lp15 : ∀ (n15 : Nat), ∀ (sp : Int32) (le : Int32) (x1 : Int32), fl_C_goToNextLine_15 cz ch  n15 (sp, le, x1) = some out → ∀ (H : Heap) (locs : List Loc), va_P (dC, dI) vwCl [(h0, .inr (3, [.ref h1, .int cz, .int sp, .int le])), (h1, .inl (cC, 3000, .inl ch))] H → va_D A [(h0, .inr (3, [.ref h1, .int cz, .int sp, .int le])), (h1, .inl (cC, 3000, .inl ch))] → va_S A s.heap H locs → ∀ ls : Array Slot, lv_has ls 2 [(0, .ref h0), (1, .int x1)] → W p l e (headSpec ws_C_goToNextLine { frames := 0, cells := 0, slots := 0, locals := 0 }).room s m args below meth c H locs 0 0 Q (F0 m 15 ls []) := by
    intro n15
    induction n15 with
    | zero =>
      intro sp le x1 hF
      exact (jv_no hF).elim
    | succ n15 ih15 =>
      intro sp le x1 hF H locs hP hD hS ls hl
      have hF : fb_C_goToNextLine_15 cz ch  (fl_C_goToNextLine_15 cz ch  n15) sp le x1 = some out := hF
      unfold fb_C_goToNextLine_15 at hF
      refine lv_iload_n hx hb dd_C_goToNextLine_15 rfl (lv_at hl 1 rfl) ?_
      refine lv_aload_n hx hb dd_C_goToNextLine_16 rfl (lv_at hl 0 rfl) ?_
      refine va_get (D := (dC, dI)) (ci := 3) (v := .int cz) (C := cn_C) (T := tt_C) (N := 4) hx hb ht in_C hown hK hP 0 rfl rfl 1 (by decide) (ht _ tw_2_120) (fun _ h9 => h9) rfl dd_C_goToNextLine_17 ?_
      refine lv_icmp_ge (tgt := 47) hx hb dd_C_goToNextLine_20 (by decide) (fun c_10 => ?_) (fun c_10 => ?_)
      · have hF := jv_t c_10 hF
        refine lv_aload_n hx hb dd_C_goToNextLine_47 rfl (lv_at hl 0 rfl) ?_
        refine lv_aload_n hx hb dd_C_goToNextLine_48 rfl (lv_at hl 0 rfl) ?_
        refine va_get (D := (dC, dI)) (ci := 3) (v := .int cz) (C := cn_C) (T := tt_C) (N := 4) hx hb ht in_C hown hK hP 0 rfl rfl 1 (by decide) (ht _ tw_2_120) (fun _ h9 => h9) rfl dd_C_goToNextLine_49 ?_
        refine va_put (D := (dC, dI)) (ci := 3) (v := .int cz) (ty := .int) (C := cn_C) (T := tt_C) (N := 4) hx hb ht in_C ty_C tyok_C nm_C hown hK hP hD hS 0 rfl rfl 3 (by decide) (ht _ tw_2_122) (fun _ h9 => h9) rfl (by decide +kernel) rfl rfl (Nat.le_of_ble_eq_true rfl) dd_C_goToNextLine_52 (fun H_11 locs_12 hP hD hS => ?_)
        have hP : va_P (dC, dI) vwCl [(h0, .inr (3, [.ref h1, .int cz, .int sp, .int cz])), (h1, .inl (cC, 3000, .inl ch))] H_11 := hP
        have hD : va_D A [(h0, .inr (3, [.ref h1, .int cz, .int sp, .int cz])), (h1, .inl (cC, 3000, .inl ch))] := hD
        refine lv_iconst (v := 0) hx hb dd_C_goToNextLine_55 (by decide) ?_
        subst hQ
        obtain rfl := Option.some.inj hF
        exact W.zret (v := 0) hx hb hr rfl (fun t ht hW => ⟨⟨0, (), rfl, rfl, by rw [ht]; exact hP, va_K.moved hW.alike hK, hD⟩, hS.F ht⟩) hS.2.2 dd_C_goToNextLine_56
      · have hF := jv_f c_10 hF
        refine lv_aload_n hx hb dd_C_goToNextLine_23 rfl (lv_at hl 0 rfl) ?_
        refine va_get (D := (dC, dI)) (ci := 3) (v := .ref h1) (C := cn_C) (T := tt_C) (N := 4) hx hb ht in_C hown hK hP 0 rfl rfl 0 (by decide) (ht _ tw_2_119) (fun _ h9 => h9) rfl dd_C_goToNextLine_24 ?_
        refine lv_iload_n hx hb dd_C_goToNextLine_27 rfl (lv_at hl 1 rfl) ?_
        obtain ⟨g_13, hF⟩ := jv_gi hF
        refine va_cald hx hb hK hP 1 2 rfl rfl (jv_in g_13) dd_C_goToNextLine_28 ?_
        refine lv_bipush (v := 10) hx hb dd_C_goToNextLine_29 (by decide) ?_
        refine lv_icmp_ne (tgt := 41) hx hb dd_C_goToNextLine_31 (by decide) (fun c_14 => ?_) (fun c_14 => ?_)
        · have hF := jv_f c_14 hF
          refine lv_iinc (v := x1 + 1) (lv' := [(1, .int (x1 + 1)), (0, .ref h0)]) hx hb dd_C_goToNextLine_41 hl (k := 1) rfl rfl (by decide) rfl (fun ls hl => ?_)
          refine lv_goto (tgt := 15) hx hb dd_C_goToNextLine_44 (by decide) ?_
          exact ih15 sp le (x1 + 1) hF H locs hP hD hS ls (lv_sub hl [1, 0] rfl)
        · have hF := jv_t c_14 hF
          refine lv_aload_n hx hb dd_C_goToNextLine_34 rfl (lv_at hl 0 rfl) ?_
          refine lv_iload_n hx hb dd_C_goToNextLine_35 rfl (lv_at hl 1 rfl) ?_
          refine va_put (D := (dC, dI)) (ci := 3) (v := .int x1) (ty := .int) (C := cn_C) (T := tt_C) (N := 4) hx hb ht in_C ty_C tyok_C nm_C hown hK hP hD hS 0 rfl rfl 3 (by decide) (ht _ tw_2_122) (fun _ h9 => h9) rfl (by decide +kernel) rfl rfl (Nat.le_of_ble_eq_true rfl) dd_C_goToNextLine_36 (fun H_15 locs_16 hP hD hS => ?_)
          have hP : va_P (dC, dI) vwCl [(h0, .inr (3, [.ref h1, .int cz, .int sp, .int x1])), (h1, .inl (cC, 3000, .inl ch))] H_15 := hP
          have hD : va_D A [(h0, .inr (3, [.ref h1, .int cz, .int sp, .int x1])), (h1, .inl (cC, 3000, .inl ch))] := hD
          refine lv_iconst (v := 1) hx hb dd_C_goToNextLine_39 (by decide) ?_
          subst hQ
          obtain rfl := Option.some.inj hF
          exact W.zret (v := 1) hx hb hr rfl (fun t ht hW => ⟨⟨1, (), rfl, rfl, by rw [ht]; exact hP, va_K.moved hW.alike hK, hD⟩, hS.F ht⟩) hS.2.2 dd_C_goToNextLine_40
  unfold fn_C_goToNextLine at hF
  refine lv_aload_n hx hb dd_C_goToNextLine_0 rfl (lv_at hl 0 rfl) ?_
  refine lv_aload_n hx hb dd_C_goToNextLine_1 rfl (lv_at hl 0 rfl) ?_
  refine va_get (D := (dC, dI)) (ci := 3) (v := .int le) (C := cn_C) (T := tt_C) (N := 4) hx hb ht in_C hown hK hP 0 rfl rfl 3 (by decide) (ht _ tw_2_122) (fun _ h9 => h9) rfl dd_C_goToNextLine_2 ?_
  refine lv_iconst (v := 1) hx hb dd_C_goToNextLine_5 (by decide) ?_
  refine lv_iadd hx hb dd_C_goToNextLine_6 ?_
  refine va_put (D := (dC, dI)) (ci := 3) (v := .int (le + 1)) (ty := .int) (C := cn_C) (T := tt_C) (N := 4) hx hb ht in_C ty_C tyok_C nm_C hown hK hP hD hS 0 rfl rfl 2 (by decide) (ht _ tw_2_121) (fun _ h9 => h9) rfl (by decide +kernel) rfl rfl (Nat.le_of_ble_eq_true rfl) dd_C_goToNextLine_7 (fun H_17 locs_18 hP hD hS => ?_)
  have hP : va_P (dC, dI) vwCl [(h0, .inr (3, [.ref h1, .int cz, .int (le + 1), .int le])), (h1, .inl (cC, 3000, .inl ch))] H_17 := hP
  have hD : va_D A [(h0, .inr (3, [.ref h1, .int cz, .int (le + 1), .int le])), (h1, .inl (cC, 3000, .inl ch))] := hD
  refine lv_aload_n hx hb dd_C_goToNextLine_10 rfl (lv_at hl 0 rfl) ?_
  refine va_get (D := (dC, dI)) (ci := 3) (v := .int (le + 1)) (C := cn_C) (T := tt_C) (N := 4) hx hb ht in_C hown hK hP 0 rfl rfl 2 (by decide) (ht _ tw_2_121) (fun _ h9 => h9) rfl dd_C_goToNextLine_11 ?_
  refine lv_istore_n (lv' := [(1, .int (le + 1)), (0, .ref h0)]) hx hb dd_C_goToNextLine_14 rfl hl (by decide) rfl (fun ls hl => ?_)
  exact lp15 4000 (le + 1) le (le + 1) hF H_17 locs_18 hP hD hS ls (lv_sub hl [1, 0] rfl)
set_option maxHeartbeats 40000000 in
set_option maxRecDepth 100000 in
theorem c_C_isAtLineEnd (l : Launch) (dC : Nat → ClassId) (dI : Nat → Nat → Nat) (cI cL cC cZ : ClassId) (h0 h1 : Nat) (sz : Nat) (cz : Int32) (sp : Int32) (le : Int32) (ch : Nat → Int32)  (out : Int32) (hF : fn_C_isAtLineEnd sp le = some out) : Met l yy_C_isAtLineEnd ws_C_isAtLineEnd { frames := 0, cells := 0, slots := 0, locals := 0 } (mP_ (dC, dI) (tk_ cI cL cC cZ) [(h0, .inr (3, [.ref h1, .int cz, .int sp, .int le])), (h1, .inl (cC, 3000, .inl ch))] sz [.ref h0]) (vp_Si (fun r => r = out)) 0 0 (fun _ => False) := by
  refine Met.ofW (cc := cc_C_isAtLineEnd) (maxL := 1) (ret := (some .boolean)) (by decide) rfl ?_
  intro p e s m args below meth c s₁ B hml hv
  obtain ⟨hargs, hsz, hP, hK, hD0⟩ := hv
  have hx := B.exec
  have hb := B.bytes
  have hr := B.returns
  have hts := atoms_spec (ws := ws_C_isAtLineEnd) B.pre
  have ht : ∀ w ∈ TB_, w.before args s = true := fun w h => hts w (List.mem_cons_of_mem _ h)
  have hown : s.vm.findClass cn_C = some m.cls := findClass_of_methodNamed B.named
  have hlocks := B.notSynchronized
  subst hsz
  have hD := hD0.self (sz := s.heap.size)
  generalize hAe : va_A [(h0, .inr (3, [.ref h1, .int cz, .int sp, .int le])), (h1, .inl (cC, 3000, .inl ch))] s.heap.size = A at hD
  have hA : ∀ q : Nat, s.heap.size ≤ q → A q := fun q h => by rw [← hAe]; exact Or.inr h
  have hS : va_S A s.heap s.heap [] := va_S.rf
  have hP : va_P (dC, dI) vwCl [(h0, .inr (3, [.ref h1, .int cz, .int sp, .int le])), (h1, .inl (cC, 3000, .inl ch))] s.heap := hP
  have hl := lv_entry [.ref h0] (n := 1) (Nat.le_of_ble_eq_true rfl)
  have he : entryFrame m args 1 = _ := (congrArg (fun a => entryFrame m a 1) hargs).trans (lg_entry_eq m [.ref h0] 1)
  rw [he]
  generalize (lg_sl [.ref h0] ++ List.replicate (1 - (lg_sl [.ref h0]).length) Slot.unset).toArray = ls at hl ⊢
  have hl : lv_has ls 1 [(0, .ref h0)] := hl
  generalize hQ : MQ below _ args s _ _ _ = Q
  unfold fn_C_isAtLineEnd at hF
  refine lv_aload_n hx hb dd_C_isAtLineEnd_0 rfl (lv_at hl 0 rfl) ?_
  refine va_get (D := (dC, dI)) (ci := 3) (v := .int sp) (C := cn_C) (T := tt_C) (N := 4) hx hb ht in_C hown hK hP 0 rfl rfl 2 (by decide) (ht _ tw_2_121) (fun _ h9 => h9) rfl dd_C_isAtLineEnd_1 ?_
  refine lv_aload_n hx hb dd_C_isAtLineEnd_4 rfl (lv_at hl 0 rfl) ?_
  refine va_get (D := (dC, dI)) (ci := 3) (v := .int le) (C := cn_C) (T := tt_C) (N := 4) hx hb ht in_C hown hK hP 0 rfl rfl 3 (by decide) (ht _ tw_2_122) (fun _ h9 => h9) rfl dd_C_isAtLineEnd_5 ?_
  refine lv_icmp_ne (tgt := 15) hx hb dd_C_isAtLineEnd_8 (by decide) (fun c_2 => ?_) (fun c_2 => ?_)
  · have hF := jv_f c_2 hF
    refine lv_iconst (v := 0) hx hb dd_C_isAtLineEnd_15 (by decide) ?_
    subst hQ
    exact W.zret (v := 0) hx hb hr rfl (fun t ht hW => ⟨0, rfl, (Option.some.inj hF), ht⟩) (fun _ h => by cases h) dd_C_isAtLineEnd_16
  · have hF := jv_t c_2 hF
    refine lv_iconst (v := 1) hx hb dd_C_isAtLineEnd_11 (by decide) ?_
    refine lv_goto (tgt := 16) hx hb dd_C_isAtLineEnd_12 (by decide) ?_
    subst hQ
    exact W.zret (v := 1) hx hb hr rfl (fun t ht hW => ⟨1, rfl, (Option.some.inj hF), ht⟩) (fun _ h => by cases h) dd_C_isAtLineEnd_16
set_option maxHeartbeats 40000000 in
set_option maxRecDepth 100000 in
theorem c_C_skipText (l : Launch) (dC : Nat → ClassId) (dI : Nat → Nat → Nat) (cI cL cC cZ : ClassId) (adK adV : Nat → Nat) (h0 h1 : Nat) (sz : Nat) (cz : Int32) (sp : Int32) (le : Int32) (ch : Nat → Int32) (x1 : Nat) (out : Int32 × Int32) (hF : fn_C_skipText le ch sp x1 = some out) : Met l yy_C_skipText ws_C_skipText { frames := 4, cells := 0, slots := 0, locals := 85 } (mS_ adK adV (dC, dI) (tk_ cI cL cC cZ) [(h0, .inr (3, [.ref h1, .int cz, .int sp, .int le])), (h1, .inl (cC, 3000, .inl ch))] sz [.ref h0, .ref (adK x1)]) (va_Qi (fun r (_ : Unit) => r = out.1) (mB_ (dC, dI) (tk_ cI cL cC cZ) [(h0, .inr (3, [.ref h1, .int cz, .int out.2, .int le])), (h1, .inl (cC, 3000, .inl ch))] (va_A [(h0, .inr (3, [.ref h1, .int cz, .int sp, .int le])), (h1, .inl (cC, 3000, .inl ch))] sz)) (va_A [(h0, .inr (3, [.ref h1, .int cz, .int sp, .int le])), (h1, .inl (cC, 3000, .inl ch))] sz)) 0 0 (va_A [(h0, .inr (3, [.ref h1, .int cz, .int sp, .int le])), (h1, .inl (cC, 3000, .inl ch))] sz) := by
  refine Met.ofW (cc := cc_C_skipText) (maxL := 3) (ret := (some .boolean)) (by decide) rfl ?_
  intro p e s m args below meth c s₁ B hml hv
  obtain ⟨hargs, hsz, hP, hK, hD0, hV⟩ := hv
  have hx := B.exec
  have hb := B.bytes
  have hr := B.returns
  have hts := atoms_spec (ws := ws_C_skipText) B.pre
  have ht : ∀ w ∈ TB_, w.before args s = true := fun w h => hts w (List.mem_cons_of_mem _ h)
  have hown : s.vm.findClass cn_C = some m.cls := findClass_of_methodNamed B.named
  have hlocks := B.notSynchronized
  subst hsz
  have hD := hD0.self (sz := s.heap.size)
  generalize hAe : va_A [(h0, .inr (3, [.ref h1, .int cz, .int sp, .int le])), (h1, .inl (cC, 3000, .inl ch))] s.heap.size = A at hD ⊢ hV
  have hA : ∀ q : Nat, s.heap.size ≤ q → A q := fun q h => by rw [← hAe]; exact Or.inr h
  have hS : va_S A s.heap s.heap [] := va_S.rf
  have hP : va_P (dC, dI) vwCl [(h0, .inr (3, [.ref h1, .int cz, .int sp, .int le])), (h1, .inl (cC, 3000, .inl ch))] s.heap := hP
  have hl := lv_entry [.ref h0, .ref (adK x1)] (n := 3) (Nat.le_of_ble_eq_true rfl)
  have he : entryFrame m args 3 = _ := (congrArg (fun a => entryFrame m a 3) hargs).trans (lg_entry_eq m [.ref h0, .ref (adK x1)] 3)
  rw [he]
  generalize (lg_sl [.ref h0, .ref (adK x1)] ++ List.replicate (3 - (lg_sl [.ref h0, .ref (adK x1)]).length) Slot.unset).toArray = ls at hl ⊢
  have hl : lv_has ls 3 [(0, .ref h0), (1, .ref (adK x1))] := hl
  generalize hQ : MQ below _ args s _ _ _ = Q
  have lp20 : ∀ (n20 : Nat), ∀ (sp : Int32) (x1 : Nat) (x2 : Int32), fl_C_skipText_20 le ch  n20 (sp, x1, x2) = some out → ∀ (H : Heap) (locs : List Loc), va_P (dC, dI) vwCl [(h0, .inr (3, [.ref h1, .int cz, .int sp, .int le])), (h1, .inl (cC, 3000, .inl ch))] H → va_D A [(h0, .inr (3, [.ref h1, .int cz, .int sp, .int le])), (h1, .inl (cC, 3000, .inl ch))] → va_S A s.heap H locs → ∀ ls : Array Slot, lv_has ls 3 [(0, .ref h0), (1, .ref (adK x1)), (2, .int x2)] → W p l e (headSpec ws_C_skipText { frames := 4, cells := 0, slots := 0, locals := 85 }).room s m args below meth c H locs 0 0 Q (F0 m 20 ls []) := by
    intro n20
    induction n20 with
    | zero =>
      intro sp x1 x2 hF
      exact (jv_no hF).elim
    | succ n20 ih20 =>
      intro sp x1 x2 hF H locs hP hD hS ls hl
      have hF : fb_C_skipText_20 le ch  (fl_C_skipText_20 le ch  n20) sp x1 x2 = some out := hF
      unfold fb_C_skipText_20 at hF
      refine lv_iload_n hx hb dd_C_skipText_20 rfl (lv_at hl 2 rfl) ?_
      refine lv_aload_n hx hb dd_C_skipText_21 rfl (lv_at hl 1 rfl) ?_
      obtain ⟨o_22, ho_22, hF⟩ := jv_bi hF
      refine jv_ci (va_runV (C := "java/lang/String") (As := []) (rest := [.int x2]) ⟨hx, hb, hml, hown, ht⟩ (c_S_length l dC dI cI cL cC cZ adK adV H.size x1  _ ho_22) (cwV 0 ht (gi_V tw_2_168 tw_1_199 tw_1_200 tw_1_7 tw_1_201) rfl rfl rfl (by decide +kernel) ⟨Nat.le_of_ble_eq_true rfl, Nat.le_of_ble_eq_true rfl⟩) (jv_sv hK hP hD hS hA hV [] rfl (by decide) rfl (sv_length hV ho_22 hS)) rfl rfl hl.1 rfl (lv_room (Nat.le_of_ble_eq_true rfl)) dd_C_skipText_22 ⟨Nat.le_of_ble_eq_true rfl, Nat.le_of_ble_eq_true rfl⟩) ?_
      refine lv_icmp_ge (tgt := 55) hx hb dd_C_skipText_25 (by decide) (fun c_7 => ?_) (fun c_7 => ?_)
      · have hF := jv_t c_7 hF
        refine lv_aload_n hx hb dd_C_skipText_55 rfl (lv_at hl 0 rfl) ?_
        refine lv_dup hx hb dd_C_skipText_56 rfl ?_
        refine va_get (D := (dC, dI)) (ci := 3) (v := .int sp) (C := cn_C) (T := tt_C) (N := 4) hx hb ht in_C hown hK hP 0 rfl rfl 2 (by decide) (ht _ tw_2_121) (fun _ h9 => h9) rfl dd_C_skipText_57 ?_
        refine lv_aload_n hx hb dd_C_skipText_60 rfl (lv_at hl 1 rfl) ?_
        obtain ⟨o_61, ho_61, hF⟩ := jv_bi hF
        refine jv_ci (va_runV (C := "java/lang/String") (As := []) (rest := [.int sp, .ref h0]) ⟨hx, hb, hml, hown, ht⟩ (c_S_length l dC dI cI cL cC cZ adK adV H.size x1  _ ho_61) (cwV 0 ht (gi_V tw_2_168 tw_1_199 tw_1_200 tw_1_7 tw_1_201) rfl rfl rfl (by decide +kernel) ⟨Nat.le_of_ble_eq_true rfl, Nat.le_of_ble_eq_true rfl⟩) (jv_sv hK hP hD hS hA hV [] rfl (by decide) rfl (sv_length hV ho_61 hS)) rfl rfl hl.1 rfl (lv_room (Nat.le_of_ble_eq_true rfl)) dd_C_skipText_61 ⟨Nat.le_of_ble_eq_true rfl, Nat.le_of_ble_eq_true rfl⟩) ?_
        refine lv_iadd hx hb dd_C_skipText_64 ?_
        refine va_put (D := (dC, dI)) (ci := 3) (v := .int (sp + o_61)) (ty := .int) (C := cn_C) (T := tt_C) (N := 4) hx hb ht in_C ty_C tyok_C nm_C hown hK hP hD hS 0 rfl rfl 2 (by decide) (ht _ tw_2_121) (fun _ h9 => h9) rfl (by decide +kernel) rfl rfl (Nat.le_of_ble_eq_true rfl) dd_C_skipText_65 (fun H_8 locs_9 hP hD hS => ?_)
        have hP : va_P (dC, dI) vwCl [(h0, .inr (3, [.ref h1, .int cz, .int (sp + o_61), .int le])), (h1, .inl (cC, 3000, .inl ch))] H_8 := hP
        have hD : va_D A [(h0, .inr (3, [.ref h1, .int cz, .int (sp + o_61), .int le])), (h1, .inl (cC, 3000, .inl ch))] := hD
        refine lv_iconst (v := 1) hx hb dd_C_skipText_68 (by decide) ?_
        subst hQ
        obtain rfl := Option.some.inj hF
        exact W.zret (v := 1) hx hb hr rfl (fun t ht hW => ⟨⟨1, (), rfl, rfl, by rw [ht]; exact hP, va_K.moved hW.alike hK, hD⟩, hS.F ht⟩) hS.2.2 dd_C_skipText_69
      · have hF := jv_f c_7 hF
        refine lv_aload_n hx hb dd_C_skipText_28 rfl (lv_at hl 0 rfl) ?_
        refine va_get (D := (dC, dI)) (ci := 3) (v := .ref h1) (C := cn_C) (T := tt_C) (N := 4) hx hb ht in_C hown hK hP 0 rfl rfl 0 (by decide) (ht _ tw_2_119) (fun _ h9 => h9) rfl dd_C_skipText_29 ?_
        refine lv_aload_n hx hb dd_C_skipText_32 rfl (lv_at hl 0 rfl) ?_
        refine va_get (D := (dC, dI)) (ci := 3) (v := .int sp) (C := cn_C) (T := tt_C) (N := 4) hx hb ht in_C hown hK hP 0 rfl rfl 2 (by decide) (ht _ tw_2_121) (fun _ h9 => h9) rfl dd_C_skipText_33 ?_
        refine lv_iload_n hx hb dd_C_skipText_36 rfl (lv_at hl 2 rfl) ?_
        refine lv_iadd hx hb dd_C_skipText_37 ?_
        obtain ⟨g_10, hF⟩ := jv_gi hF
        refine va_cald hx hb hK hP 1 2 rfl rfl (jv_in g_10) dd_C_skipText_38 ?_
        refine lv_aload_n hx hb dd_C_skipText_39 rfl (lv_at hl 1 rfl) ?_
        refine lv_iload_n hx hb dd_C_skipText_40 rfl (lv_at hl 2 rfl) ?_
        obtain ⟨o_41, ho_41, hF⟩ := jv_bi hF
        refine jv_ci (va_runV (C := "java/lang/String") (As := [.int x2]) (rest := [.int (ch (sp + x2).toNatClampNeg)]) ⟨hx, hb, hml, hown, ht⟩ (c_S_charAt l dC dI cI cL cC cZ adK adV H.size x1 x2 _ ho_41) (cwV 1 ht (gi_V tw_2_169 tw_1_209 tw_1_210 tw_1_7 tw_1_211) rfl rfl rfl (by decide +kernel) ⟨Nat.le_of_ble_eq_true rfl, Nat.le_of_ble_eq_true rfl⟩) (jv_sv hK hP hD hS hA hV [] rfl (by decide) rfl (sv_charAt hV ho_41 hS)) rfl rfl hl.1 rfl (lv_room (Nat.le_of_ble_eq_true rfl)) dd_C_skipText_41 ⟨Nat.le_of_ble_eq_true rfl, Nat.le_of_ble_eq_true rfl⟩) ?_
        refine lv_icmp_eq (tgt := 49) hx hb dd_C_skipText_44 (by decide) (fun c_11 => ?_) (fun c_11 => ?_)
        · have hF := jv_t c_11 hF
          refine lv_iinc (v := x2 + 1) (lv' := [(2, .int (x2 + 1)), (0, .ref h0), (1, .ref (adK x1))]) hx hb dd_C_skipText_49 hl (k := 2) rfl rfl (by decide) rfl (fun ls hl => ?_)
          refine lv_goto (tgt := 20) hx hb dd_C_skipText_52 (by decide) ?_
          exact ih20 sp x1 (x2 + 1) hF H locs hP hD hS ls (lv_sub hl [1, 2, 0] rfl)
        · have hF := jv_f c_11 hF
          refine lv_iconst (v := 0) hx hb dd_C_skipText_47 (by decide) ?_
          subst hQ
          obtain rfl := Option.some.inj hF
          exact W.zret (v := 0) hx hb hr rfl (fun t ht hW => ⟨⟨0, (), rfl, rfl, by rw [ht]; exact hP, va_K.moved hW.alike hK, hD⟩, hS.F ht⟩) hS.2.2 dd_C_skipText_48
  unfold fn_C_skipText at hF
  refine lv_aload_n hx hb dd_C_skipText_0 rfl (lv_at hl 1 rfl) ?_
  obtain ⟨o_1, ho_1, hF⟩ := jv_bi hF
  refine jv_ci (va_runV (C := "java/lang/String") (As := []) (rest := []) ⟨hx, hb, hml, hown, ht⟩ (c_S_length l dC dI cI cL cC cZ adK adV s.heap.size x1  _ ho_1) (cwV 0 ht (gi_V tw_2_168 tw_1_199 tw_1_200 tw_1_7 tw_1_201) rfl rfl rfl (by decide +kernel) ⟨Nat.le_of_ble_eq_true rfl, Nat.le_of_ble_eq_true rfl⟩) (jv_sv hK hP hD hS hA hV [] rfl (by decide) rfl (sv_length hV ho_1 hS)) rfl rfl hl.1 rfl (lv_room (Nat.le_of_ble_eq_true rfl)) dd_C_skipText_1 ⟨Nat.le_of_ble_eq_true rfl, Nat.le_of_ble_eq_true rfl⟩) ?_
  refine lv_aload_n hx hb dd_C_skipText_4 rfl (lv_at hl 0 rfl) ?_
  refine va_get (D := (dC, dI)) (ci := 3) (v := .int le) (C := cn_C) (T := tt_C) (N := 4) hx hb ht in_C hown hK hP 0 rfl rfl 3 (by decide) (ht _ tw_2_122) (fun _ h9 => h9) rfl dd_C_skipText_5 ?_
  refine lv_aload_n hx hb dd_C_skipText_8 rfl (lv_at hl 0 rfl) ?_
  refine va_get (D := (dC, dI)) (ci := 3) (v := .int sp) (C := cn_C) (T := tt_C) (N := 4) hx hb ht in_C hown hK hP 0 rfl rfl 2 (by decide) (ht _ tw_2_121) (fun _ h9 => h9) rfl dd_C_skipText_9 ?_
  refine lv_isub hx hb dd_C_skipText_12 ?_
  refine lv_icmp_le (tgt := 18) hx hb dd_C_skipText_13 (by decide) (fun c_12 => ?_) (fun c_12 => ?_)
  · have hF := jv_t c_12 hF
    refine lv_iconst (v := 0) hx hb dd_C_skipText_18 (by decide) ?_
    refine lv_istore_n (lv' := [(2, .int 0), (0, .ref h0), (1, .ref (adK x1))]) hx hb dd_C_skipText_19 rfl hl (by decide) rfl (fun ls hl => ?_)
    exact lp20 4000 sp x1 0 hF s.heap [] hP hD hS ls (lv_sub hl [1, 2, 0] rfl)
  · have hF := jv_f c_12 hF
    refine lv_iconst (v := 0) hx hb dd_C_skipText_16 (by decide) ?_
    subst hQ
    obtain rfl := Option.some.inj hF
    exact W.zret (v := 0) hx hb hr rfl (fun t ht hW => ⟨⟨0, (), rfl, rfl, by rw [ht]; exact hP, va_K.moved hW.alike hK, hD⟩, hS.F ht⟩) hS.2.2 dd_C_skipText_17
set_option maxHeartbeats 40000000 in
set_option maxRecDepth 100000 in
theorem c_C_skipIndent (l : Launch) (dC : Nat → ClassId) (dI : Nat → Nat → Nat) (cI cL cC cZ : ClassId) (adK adV : Nat → Nat) (h0 h1 : Nat) (sz : Nat) (cz : Int32) (sp : Int32) (le : Int32) (ch : Nat → Int32) (x1 : Int32) (out : Int32 × Int32) (hF : fn_C_skipIndent le ch sp x1 = some out) : Met l yy_C_skipIndent ws_C_skipIndent { frames := 5, cells := 0, slots := 0, locals := 107 } (mS_ adK adV (dC, dI) (tk_ cI cL cC cZ) [(h0, .inr (3, [.ref h1, .int cz, .int sp, .int le])), (h1, .inl (cC, 3000, .inl ch))] sz [.ref h0, .int x1]) (va_Qi (fun r (_ : Unit) => r = out.1) (mB_ (dC, dI) (tk_ cI cL cC cZ) [(h0, .inr (3, [.ref h1, .int cz, .int out.2, .int le])), (h1, .inl (cC, 3000, .inl ch))] (va_A [(h0, .inr (3, [.ref h1, .int cz, .int sp, .int le])), (h1, .inl (cC, 3000, .inl ch))] sz)) (va_A [(h0, .inr (3, [.ref h1, .int cz, .int sp, .int le])), (h1, .inl (cC, 3000, .inl ch))] sz)) 0 0 (va_A [(h0, .inr (3, [.ref h1, .int cz, .int sp, .int le])), (h1, .inl (cC, 3000, .inl ch))] sz) := by
  refine Met.ofW (cc := cc_C_skipIndent) (maxL := 3) (ret := (some .boolean)) (by decide) rfl ?_
  intro p e s m args below meth c s₁ B hml hv
  obtain ⟨hargs, hsz, hP, hK, hD0, hV⟩ := hv
  have hx := B.exec
  have hb := B.bytes
  have hr := B.returns
  have hts := atoms_spec (ws := ws_C_skipIndent) B.pre
  have ht : ∀ w ∈ TB_, w.before args s = true := fun w h => hts w (List.mem_cons_of_mem _ h)
  have hown : s.vm.findClass cn_C = some m.cls := findClass_of_methodNamed B.named
  have hlocks := B.notSynchronized
  subst hsz
  have hD := hD0.self (sz := s.heap.size)
  generalize hAe : va_A [(h0, .inr (3, [.ref h1, .int cz, .int sp, .int le])), (h1, .inl (cC, 3000, .inl ch))] s.heap.size = A at hD ⊢ hV
  have hA : ∀ q : Nat, s.heap.size ≤ q → A q := fun q h => by rw [← hAe]; exact Or.inr h
  have hS : va_S A s.heap s.heap [] := va_S.rf
  have hP : va_P (dC, dI) vwCl [(h0, .inr (3, [.ref h1, .int cz, .int sp, .int le])), (h1, .inl (cC, 3000, .inl ch))] s.heap := hP
  have hl := lv_entry [.ref h0, .int x1] (n := 3) (Nat.le_of_ble_eq_true rfl)
  have he : entryFrame m args 3 = _ := (congrArg (fun a => entryFrame m a 3) hargs).trans (lg_entry_eq m [.ref h0, .int x1] 3)
  rw [he]
  generalize (lg_sl [.ref h0, .int x1] ++ List.replicate (3 - (lg_sl [.ref h0, .int x1]).length) Slot.unset).toArray = ls at hl ⊢
  have hl : lv_has ls 3 [(0, .ref h0), (1, .int x1)] := hl
  generalize hQ : MQ below _ args s _ _ _ = Q
  have lp2 : ∀ (n2 : Nat), ∀ (sp : Int32) (x1 : Int32) (x2 : Int32), fl_C_skipIndent_2 le ch  n2 (sp, x1, x2) = some out → ∀ (H : Heap) (locs : List Loc), va_P (dC, dI) vwCl [(h0, .inr (3, [.ref h1, .int cz, .int sp, .int le])), (h1, .inl (cC, 3000, .inl ch))] H → va_D A [(h0, .inr (3, [.ref h1, .int cz, .int sp, .int le])), (h1, .inl (cC, 3000, .inl ch))] → va_S A s.heap H locs → ∀ ls : Array Slot, lv_has ls 3 [(0, .ref h0), (1, .int x1), (2, .int x2)] → W p l e (headSpec ws_C_skipIndent { frames := 5, cells := 0, slots := 0, locals := 107 }).room s m args below meth c H locs 0 0 Q (F0 m 2 ls []) := by
    intro n2
    induction n2 with
    | zero =>
      intro sp x1 x2 hF
      exact (jv_no hF).elim
    | succ n2 ih2 =>
      intro sp x1 x2 hF H locs hP hD hS ls hl
      have hF : fb_C_skipIndent_2 le ch  (fl_C_skipIndent_2 le ch  n2) sp x1 x2 = some out := hF
      unfold fb_C_skipIndent_2 at hF
      refine lv_iload_n hx hb dd_C_skipIndent_2 rfl (lv_at hl 2 rfl) ?_
      refine lv_iload_n hx hb dd_C_skipIndent_3 rfl (lv_at hl 1 rfl) ?_
      refine lv_icmp_ge (tgt := 24) hx hb dd_C_skipIndent_4 (by decide) (fun c_5 => ?_) (fun c_5 => ?_)
      · have hF := jv_t c_5 hF
        refine lv_iconst (v := 1) hx hb dd_C_skipIndent_24 (by decide) ?_
        subst hQ
        obtain rfl := Option.some.inj hF
        exact W.zret (v := 1) hx hb hr rfl (fun t ht hW => ⟨⟨1, (), rfl, rfl, by rw [ht]; exact hP, va_K.moved hW.alike hK, hD⟩, hS.F ht⟩) hS.2.2 dd_C_skipIndent_25
      · have hF := jv_f c_5 hF
        refine lv_aload_n hx hb dd_C_skipIndent_7 rfl (lv_at hl 0 rfl) ?_
        refine va_ldcS hx hb hown (sk_R (k := 0) hV rfl) dd_C_skipIndent_8 ?_
        obtain ⟨o_10, ho_10, hF⟩ := jv_bi hF
        refine jv_mi (wr := []) (w1 := [(h0, .inr (3, [.ref h1, .int cz, .int o_10.2, .int le])), (h1, .inl (cC, 3000, .inl ch))]) (va_runV (C := cn_C) (As := [.ref (adK 1)]) (rest := []) ⟨hx, hb, hml, hown, ht⟩ (c_C_skipText l dC dI cI cL cC cZ adK adV h0 h1 H.size cz sp le ch 1 _ ho_10) (cwV 1 ht (gi_V tw_2_181 tw_2_165 tw_2_166 tw_1_12 tw_2_167) rfl rfl rfl (by decide +kernel) ⟨Nat.le_of_ble_eq_true rfl, Nat.le_of_ble_eq_true rfl⟩) (jv_sv hK hP hD hS hA hV [0, 1] rfl (by decide) rfl (va_recv hK hP (ci := 3) (q0 := 0) rfl rfl)) rfl rfl hl.1 rfl (lv_room (Nat.le_of_ble_eq_true rfl)) dd_C_skipIndent_10 ⟨Nat.le_of_ble_eq_true rfl, Nat.le_of_ble_eq_true rfl⟩) hP hD hS hA [0, 1] [] rfl rfl (by decide) (by decide) (fun H_6 locs_7 hP hD hS => ?_)
        have hP : va_P (dC, dI) vwCl [(h0, .inr (3, [.ref h1, .int cz, .int o_10.2, .int le])), (h1, .inl (cC, 3000, .inl ch))] H_6 := hP.sub [0, 1] rfl
        have hD : va_D A [(h0, .inr (3, [.ref h1, .int cz, .int o_10.2, .int le])), (h1, .inl (cC, 3000, .inl ch))] := hD.sub [0, 1] (by decide) rfl
        refine lv_if_ne (tgt := 18) hx hb dd_C_skipIndent_13 (by decide) (fun c_8 => ?_) (fun c_8 => ?_)
        · have hF := jv_f c_8 hF
          refine lv_iinc (v := x2 + 1) (lv' := [(2, .int (x2 + 1)), (0, .ref h0), (1, .int x1)]) hx hb dd_C_skipIndent_18 hl (k := 2) rfl rfl (by decide) rfl (fun ls hl => ?_)
          refine lv_goto (tgt := 2) hx hb dd_C_skipIndent_21 (by decide) ?_
          exact ih2 o_10.2 x1 (x2 + 1) hF H_6 locs_7 hP hD hS ls (lv_sub hl [1, 2, 0] rfl)
        · have hF := jv_t c_8 hF
          refine lv_iconst (v := 0) hx hb dd_C_skipIndent_16 (by decide) ?_
          subst hQ
          obtain rfl := Option.some.inj hF
          exact W.zret (v := 0) hx hb hr rfl (fun t ht hW => ⟨⟨0, (), rfl, rfl, by rw [ht]; exact hP, va_K.moved hW.alike hK, hD⟩, hS.F ht⟩) hS.2.2 dd_C_skipIndent_17
  unfold fn_C_skipIndent at hF
  refine lv_iconst (v := 0) hx hb dd_C_skipIndent_0 (by decide) ?_
  refine lv_istore_n (lv' := [(2, .int 0), (0, .ref h0), (1, .int x1)]) hx hb dd_C_skipIndent_1 rfl hl (by decide) rfl (fun ls hl => ?_)
  exact lp2 4000 sp x1 0 hF s.heap [] hP hD hS ls (lv_sub hl [1, 2, 0] rfl)
set_option maxHeartbeats 40000000 in
set_option maxRecDepth 100000 in
theorem c_C_takeLetter (l : Launch) (dC : Nat → ClassId) (dI : Nat → Nat → Nat) (cI cL cC cZ : ClassId) (h0 h1 : Nat) (sz : Nat) (cz : Int32) (sp : Int32) (le : Int32) (ch : Nat → Int32)  (out : Int32 × Int32) (hF : fn_C_takeLetter le ch sp = some out) : Met l yy_C_takeLetter ws_C_takeLetter { frames := 0, cells := 0, slots := 0, locals := 0 } (mP_ (dC, dI) (tk_ cI cL cC cZ) [(h0, .inr (3, [.ref h1, .int cz, .int sp, .int le])), (h1, .inl (cC, 3000, .inl ch))] sz [.ref h0]) (va_Qi (fun r (_ : Unit) => r = out.1) (mB_ (dC, dI) (tk_ cI cL cC cZ) [(h0, .inr (3, [.ref h1, .int cz, .int out.2, .int le])), (h1, .inl (cC, 3000, .inl ch))] (va_A [(h0, .inr (3, [.ref h1, .int cz, .int sp, .int le])), (h1, .inl (cC, 3000, .inl ch))] sz)) (va_A [(h0, .inr (3, [.ref h1, .int cz, .int sp, .int le])), (h1, .inl (cC, 3000, .inl ch))] sz)) 0 0 (va_A [(h0, .inr (3, [.ref h1, .int cz, .int sp, .int le])), (h1, .inl (cC, 3000, .inl ch))] sz) := by
  refine Met.ofW (cc := cc_C_takeLetter) (maxL := 3) (ret := (some .int)) (by decide) rfl ?_
  intro p e s m args below meth c s₁ B hml hv
  obtain ⟨hargs, hsz, hP, hK, hD0⟩ := hv
  have hx := B.exec
  have hb := B.bytes
  have hr := B.returns
  have hts := atoms_spec (ws := ws_C_takeLetter) B.pre
  have ht : ∀ w ∈ TB_, w.before args s = true := fun w h => hts w (List.mem_cons_of_mem _ h)
  have hown : s.vm.findClass cn_C = some m.cls := findClass_of_methodNamed B.named
  have hlocks := B.notSynchronized
  subst hsz
  have hD := hD0.self (sz := s.heap.size)
  generalize hAe : va_A [(h0, .inr (3, [.ref h1, .int cz, .int sp, .int le])), (h1, .inl (cC, 3000, .inl ch))] s.heap.size = A at hD ⊢
  have hA : ∀ q : Nat, s.heap.size ≤ q → A q := fun q h => by rw [← hAe]; exact Or.inr h
  have hS : va_S A s.heap s.heap [] := va_S.rf
  have hP : va_P (dC, dI) vwCl [(h0, .inr (3, [.ref h1, .int cz, .int sp, .int le])), (h1, .inl (cC, 3000, .inl ch))] s.heap := hP
  have hl := lv_entry [.ref h0] (n := 3) (Nat.le_of_ble_eq_true rfl)
  have he : entryFrame m args 3 = _ := (congrArg (fun a => entryFrame m a 3) hargs).trans (lg_entry_eq m [.ref h0] 3)
  rw [he]
  generalize (lg_sl [.ref h0] ++ List.replicate (3 - (lg_sl [.ref h0]).length) Slot.unset).toArray = ls at hl ⊢
  have hl : lv_has ls 3 [(0, .ref h0)] := hl
  generalize hQ : MQ below _ args s _ _ _ = Q
  have bl84 : ∀ (sp : Int32) (x1 : Int32) (x2 : Int32), fb_C_takeLetter_84 le ch  sp x1 x2 = some out → ∀ (H : Heap) (locs : List Loc), va_P (dC, dI) vwCl [(h0, .inr (3, [.ref h1, .int cz, .int sp, .int le])), (h1, .inl (cC, 3000, .inl ch))] H → va_D A [(h0, .inr (3, [.ref h1, .int cz, .int sp, .int le])), (h1, .inl (cC, 3000, .inl ch))] → va_S A s.heap H locs → ∀ ls : Array Slot, lv_has ls 3 [(0, .ref h0), (1, .int x1), (2, .int x2)] → W p l e (headSpec ws_C_takeLetter { frames := 0, cells := 0, slots := 0, locals := 0 }).room s m args below meth c H locs 0 0 Q (F0 m 84 ls []) := by
    intro sp x1 x2 hF H locs hP hD hS ls hl
    unfold fb_C_takeLetter_84 at hF
    refine lv_iload_n hx hb dd_C_takeLetter_84 rfl (lv_at hl 1 rfl) ?_
    refine lv_if_eq (tgt := 112) hx hb dd_C_takeLetter_85 (by decide) (fun c_21 => ?_) (fun c_21 => ?_)
    · have hF := jv_t c_21 hF
      refine lv_iconst (v := 0) hx hb dd_C_takeLetter_112 (by decide) ?_
      subst hQ
      obtain rfl := Option.some.inj hF
      exact W.iret (v := 0) hx hb hr (fun t ht hW => ⟨⟨0, (), rfl, rfl, by rw [ht]; exact hP, va_K.moved hW.alike hK, hD⟩, hS.F ht⟩) hS.2.2 dd_C_takeLetter_113
    · have hF := jv_f c_21 hF
      refine lv_iload_n hx hb dd_C_takeLetter_88 rfl (lv_at hl 1 rfl) ?_
      refine lv_bipush (v := 92) hx hb dd_C_takeLetter_89 (by decide) ?_
      refine lv_icmp_eq (tgt := 112) hx hb dd_C_takeLetter_91 (by decide) (fun c_22 => ?_) (fun c_22 => ?_)
      · have hF := jv_t c_22 hF
        refine lv_iconst (v := 0) hx hb dd_C_takeLetter_112 (by decide) ?_
        subst hQ
        obtain rfl := Option.some.inj hF
        exact W.iret (v := 0) hx hb hr (fun t ht hW => ⟨⟨0, (), rfl, rfl, by rw [ht]; exact hP, va_K.moved hW.alike hK, hD⟩, hS.F ht⟩) hS.2.2 dd_C_takeLetter_113
      · have hF := jv_f c_22 hF
        refine lv_iload_n hx hb dd_C_takeLetter_94 rfl (lv_at hl 1 rfl) ?_
        refine lv_bipush (v := 35) hx hb dd_C_takeLetter_95 (by decide) ?_
        refine lv_icmp_eq (tgt := 112) hx hb dd_C_takeLetter_97 (by decide) (fun c_23 => ?_) (fun c_23 => ?_)
        · have hF := jv_t c_23 hF
          refine lv_iconst (v := 0) hx hb dd_C_takeLetter_112 (by decide) ?_
          subst hQ
          obtain rfl := Option.some.inj hF
          exact W.iret (v := 0) hx hb hr (fun t ht hW => ⟨⟨0, (), rfl, rfl, by rw [ht]; exact hP, va_K.moved hW.alike hK, hD⟩, hS.F ht⟩) hS.2.2 dd_C_takeLetter_113
        · have hF := jv_f c_23 hF
          refine lv_iload_n hx hb dd_C_takeLetter_100 rfl (lv_at hl 1 rfl) ?_
          refine lv_bipush (v := 32) hx hb dd_C_takeLetter_101 (by decide) ?_
          refine lv_icmp_ne (tgt := 114) hx hb dd_C_takeLetter_103 (by decide) (fun c_24 => ?_) (fun c_24 => ?_)
          · have hF := jv_f c_24 hF
            refine lv_aload_n hx hb dd_C_takeLetter_114 rfl (lv_at hl 0 rfl) ?_
            refine lv_dup hx hb dd_C_takeLetter_115 rfl ?_
            refine va_get (D := (dC, dI)) (ci := 3) (v := .int sp) (C := cn_C) (T := tt_C) (N := 4) hx hb ht in_C hown hK hP 0 rfl rfl 2 (by decide) (ht _ tw_2_121) (fun _ h9 => h9) rfl dd_C_takeLetter_116 ?_
            refine lv_iconst (v := 1) hx hb dd_C_takeLetter_119 (by decide) ?_
            refine lv_iadd hx hb dd_C_takeLetter_120 ?_
            refine va_put (D := (dC, dI)) (ci := 3) (v := .int (sp + 1)) (ty := .int) (C := cn_C) (T := tt_C) (N := 4) hx hb ht in_C ty_C tyok_C nm_C hown hK hP hD hS 0 rfl rfl 2 (by decide) (ht _ tw_2_121) (fun _ h9 => h9) rfl (by decide +kernel) rfl rfl (Nat.le_of_ble_eq_true rfl) dd_C_takeLetter_121 (fun H_25 locs_26 hP hD hS => ?_)
            have hP : va_P (dC, dI) vwCl [(h0, .inr (3, [.ref h1, .int cz, .int (sp + 1), .int le])), (h1, .inl (cC, 3000, .inl ch))] H_25 := hP
            have hD : va_D A [(h0, .inr (3, [.ref h1, .int cz, .int (sp + 1), .int le])), (h1, .inl (cC, 3000, .inl ch))] := hD
            refine lv_iload_n hx hb dd_C_takeLetter_124 rfl (lv_at hl 1 rfl) ?_
            subst hQ
            obtain rfl := Option.some.inj hF
            exact W.iret (v := x1) hx hb hr (fun t ht hW => ⟨⟨x1, (), rfl, rfl, by rw [ht]; exact hP, va_K.moved hW.alike hK, hD⟩, hS.F ht⟩) hS.2.2 dd_C_takeLetter_125
          · have hF := jv_t c_24 hF
            refine lv_iload_n hx hb dd_C_takeLetter_106 rfl (lv_at hl 2 rfl) ?_
            refine lv_bipush (v := 35) hx hb dd_C_takeLetter_107 (by decide) ?_
            refine lv_icmp_ne (tgt := 114) hx hb dd_C_takeLetter_109 (by decide) (fun c_27 => ?_) (fun c_27 => ?_)
            · have hF := jv_f c_27 hF
              refine lv_aload_n hx hb dd_C_takeLetter_114 rfl (lv_at hl 0 rfl) ?_
              refine lv_dup hx hb dd_C_takeLetter_115 rfl ?_
              refine va_get (D := (dC, dI)) (ci := 3) (v := .int sp) (C := cn_C) (T := tt_C) (N := 4) hx hb ht in_C hown hK hP 0 rfl rfl 2 (by decide) (ht _ tw_2_121) (fun _ h9 => h9) rfl dd_C_takeLetter_116 ?_
              refine lv_iconst (v := 1) hx hb dd_C_takeLetter_119 (by decide) ?_
              refine lv_iadd hx hb dd_C_takeLetter_120 ?_
              refine va_put (D := (dC, dI)) (ci := 3) (v := .int (sp + 1)) (ty := .int) (C := cn_C) (T := tt_C) (N := 4) hx hb ht in_C ty_C tyok_C nm_C hown hK hP hD hS 0 rfl rfl 2 (by decide) (ht _ tw_2_121) (fun _ h9 => h9) rfl (by decide +kernel) rfl rfl (Nat.le_of_ble_eq_true rfl) dd_C_takeLetter_121 (fun H_28 locs_29 hP hD hS => ?_)
              have hP : va_P (dC, dI) vwCl [(h0, .inr (3, [.ref h1, .int cz, .int (sp + 1), .int le])), (h1, .inl (cC, 3000, .inl ch))] H_28 := hP
              have hD : va_D A [(h0, .inr (3, [.ref h1, .int cz, .int (sp + 1), .int le])), (h1, .inl (cC, 3000, .inl ch))] := hD
              refine lv_iload_n hx hb dd_C_takeLetter_124 rfl (lv_at hl 1 rfl) ?_
              subst hQ
              obtain rfl := Option.some.inj hF
              exact W.iret (v := x1) hx hb hr (fun t ht hW => ⟨⟨x1, (), rfl, rfl, by rw [ht]; exact hP, va_K.moved hW.alike hK, hD⟩, hS.F ht⟩) hS.2.2 dd_C_takeLetter_125
            · have hF := jv_t c_27 hF
              refine lv_iconst (v := 0) hx hb dd_C_takeLetter_112 (by decide) ?_
              subst hQ
              obtain rfl := Option.some.inj hF
              exact W.iret (v := 0) hx hb hr (fun t ht hW => ⟨⟨0, (), rfl, rfl, by rw [ht]; exact hP, va_K.moved hW.alike hK, hD⟩, hS.F ht⟩) hS.2.2 dd_C_takeLetter_113
  have bl53 : ∀ (sp : Int32) (x1 : Int32) (y0 : Int32), fb_C_takeLetter_53 le ch  sp x1 y0 = some out → ∀ (H : Heap) (locs : List Loc), va_P (dC, dI) vwCl [(h0, .inr (3, [.ref h1, .int cz, .int sp, .int le])), (h1, .inl (cC, 3000, .inl ch))] H → va_D A [(h0, .inr (3, [.ref h1, .int cz, .int sp, .int le])), (h1, .inl (cC, 3000, .inl ch))] → va_S A s.heap H locs → ∀ ls : Array Slot, lv_has ls 3 [(0, .ref h0), (1, .int x1)] → W p l e (headSpec ws_C_takeLetter { frames := 0, cells := 0, slots := 0, locals := 0 }).room s m args below meth c H locs 0 0 Q (F0 m 53 ls [.int y0]) := by
    intro sp x1 y0 hF H locs hP hD hS ls hl
    unfold fb_C_takeLetter_53 at hF
    refine lv_istore_n (lv' := [(2, .int y0), (0, .ref h0), (1, .int x1)]) hx hb dd_C_takeLetter_53 rfl hl (by decide) rfl (fun ls hl => ?_)
    refine lv_iload_n hx hb dd_C_takeLetter_54 rfl (lv_at hl 2 rfl) ?_
    refine lv_bipush (v := 92) hx hb dd_C_takeLetter_55 (by decide) ?_
    refine lv_icmp_ne (tgt := 84) hx hb dd_C_takeLetter_57 (by decide) (fun c_30 => ?_) (fun c_30 => ?_)
    · have hF := jv_f c_30 hF
      exact bl84 sp x1 y0 hF H locs hP hD hS ls (lv_sub hl [1, 2, 0] rfl)
    · have hF := jv_t c_30 hF
      refine lv_iload_n hx hb dd_C_takeLetter_60 rfl (lv_at hl 0 rfl) ?_
      refine lv_bipush (v := 92) hx hb dd_C_takeLetter_61 (by decide) ?_
      refine lv_icmp_eq (tgt := 72) hx hb dd_C_takeLetter_63 (by decide) (fun c_31 => ?_) (fun c_31 => ?_)
      · have hF := jv_t c_31 hF
        refine lv_aload_n hx hb dd_C_takeLetter_72 rfl (lv_at hl 1 rfl) ?_
        refine lv_dup hx hb dd_C_takeLetter_73 rfl ?_
        refine va_get (D := (dC, dI)) (ci := 3) (v := .int sp) (C := cn_C) (T := tt_C) (N := 4) hx hb ht in_C hown hK hP 0 rfl rfl 2 (by decide) (ht _ tw_2_121) (fun _ h9 => h9) rfl dd_C_takeLetter_74 ?_
        refine lv_iconst (v := 2) hx hb dd_C_takeLetter_77 (by decide) ?_
        refine lv_iadd hx hb dd_C_takeLetter_78 ?_
        refine va_put (D := (dC, dI)) (ci := 3) (v := .int (sp + 2)) (ty := .int) (C := cn_C) (T := tt_C) (N := 4) hx hb ht in_C ty_C tyok_C nm_C hown hK hP hD hS 0 rfl rfl 2 (by decide) (ht _ tw_2_121) (fun _ h9 => h9) rfl (by decide +kernel) rfl rfl (Nat.le_of_ble_eq_true rfl) dd_C_takeLetter_79 (fun H_32 locs_33 hP hD hS => ?_)
        have hP : va_P (dC, dI) vwCl [(h0, .inr (3, [.ref h1, .int cz, .int (sp + 2), .int le])), (h1, .inl (cC, 3000, .inl ch))] H_32 := hP
        have hD : va_D A [(h0, .inr (3, [.ref h1, .int cz, .int (sp + 2), .int le])), (h1, .inl (cC, 3000, .inl ch))] := hD
        refine lv_iload_n hx hb dd_C_takeLetter_82 rfl (lv_at hl 0 rfl) ?_
        subst hQ
        obtain rfl := Option.some.inj hF
        exact W.iret (v := y0) hx hb hr (fun t ht hW => ⟨⟨y0, (), rfl, rfl, by rw [ht]; exact hP, va_K.moved hW.alike hK, hD⟩, hS.F ht⟩) hS.2.2 dd_C_takeLetter_83
      · have hF := jv_f c_31 hF
        refine lv_iload_n hx hb dd_C_takeLetter_66 rfl (lv_at hl 0 rfl) ?_
        refine lv_bipush (v := 35) hx hb dd_C_takeLetter_67 (by decide) ?_
        refine lv_icmp_ne (tgt := 84) hx hb dd_C_takeLetter_69 (by decide) (fun c_34 => ?_) (fun c_34 => ?_)
        · have hF := jv_f c_34 hF
          exact bl84 sp x1 y0 hF H locs hP hD hS ls (lv_sub hl [1, 2, 0] rfl)
        · have hF := jv_t c_34 hF
          refine lv_aload_n hx hb dd_C_takeLetter_72 rfl (lv_at hl 1 rfl) ?_
          refine lv_dup hx hb dd_C_takeLetter_73 rfl ?_
          refine va_get (D := (dC, dI)) (ci := 3) (v := .int sp) (C := cn_C) (T := tt_C) (N := 4) hx hb ht in_C hown hK hP 0 rfl rfl 2 (by decide) (ht _ tw_2_121) (fun _ h9 => h9) rfl dd_C_takeLetter_74 ?_
          refine lv_iconst (v := 2) hx hb dd_C_takeLetter_77 (by decide) ?_
          refine lv_iadd hx hb dd_C_takeLetter_78 ?_
          refine va_put (D := (dC, dI)) (ci := 3) (v := .int (sp + 2)) (ty := .int) (C := cn_C) (T := tt_C) (N := 4) hx hb ht in_C ty_C tyok_C nm_C hown hK hP hD hS 0 rfl rfl 2 (by decide) (ht _ tw_2_121) (fun _ h9 => h9) rfl (by decide +kernel) rfl rfl (Nat.le_of_ble_eq_true rfl) dd_C_takeLetter_79 (fun H_35 locs_36 hP hD hS => ?_)
          have hP : va_P (dC, dI) vwCl [(h0, .inr (3, [.ref h1, .int cz, .int (sp + 2), .int le])), (h1, .inl (cC, 3000, .inl ch))] H_35 := hP
          have hD : va_D A [(h0, .inr (3, [.ref h1, .int cz, .int (sp + 2), .int le])), (h1, .inl (cC, 3000, .inl ch))] := hD
          refine lv_iload_n hx hb dd_C_takeLetter_82 rfl (lv_at hl 0 rfl) ?_
          subst hQ
          obtain rfl := Option.some.inj hF
          exact W.iret (v := y0) hx hb hr (fun t ht hW => ⟨⟨y0, (), rfl, rfl, by rw [ht]; exact hP, va_K.moved hW.alike hK, hD⟩, hS.F ht⟩) hS.2.2 dd_C_takeLetter_83
  have bl24 : ∀ (sp : Int32) (y0 : Int32), fb_C_takeLetter_24 le ch  sp y0 = some out → ∀ (H : Heap) (locs : List Loc), va_P (dC, dI) vwCl [(h0, .inr (3, [.ref h1, .int cz, .int sp, .int le])), (h1, .inl (cC, 3000, .inl ch))] H → va_D A [(h0, .inr (3, [.ref h1, .int cz, .int sp, .int le])), (h1, .inl (cC, 3000, .inl ch))] → va_S A s.heap H locs → ∀ ls : Array Slot, lv_has ls 3 [(0, .ref h0)] → W p l e (headSpec ws_C_takeLetter { frames := 0, cells := 0, slots := 0, locals := 0 }).room s m args below meth c H locs 0 0 Q (F0 m 24 ls [.int y0]) := by
    intro sp y0 hF H locs hP hD hS ls hl
    unfold fb_C_takeLetter_24 at hF
    refine lv_istore_n (lv' := [(1, .int y0), (0, .ref h0)]) hx hb dd_C_takeLetter_24 rfl hl (by decide) rfl (fun ls hl => ?_)
    refine lv_aload_n hx hb dd_C_takeLetter_25 rfl (lv_at hl 1 rfl) ?_
    refine va_get (D := (dC, dI)) (ci := 3) (v := .int sp) (C := cn_C) (T := tt_C) (N := 4) hx hb ht in_C hown hK hP 0 rfl rfl 2 (by decide) (ht _ tw_2_121) (fun _ h9 => h9) rfl dd_C_takeLetter_26 ?_
    refine lv_iconst (v := 1) hx hb dd_C_takeLetter_29 (by decide) ?_
    refine lv_iadd hx hb dd_C_takeLetter_30 ?_
    refine lv_aload_n hx hb dd_C_takeLetter_31 rfl (lv_at hl 1 rfl) ?_
    refine va_get (D := (dC, dI)) (ci := 3) (v := .int le) (C := cn_C) (T := tt_C) (N := 4) hx hb ht in_C hown hK hP 0 rfl rfl 3 (by decide) (ht _ tw_2_122) (fun _ h9 => h9) rfl dd_C_takeLetter_32 ?_
    refine lv_icmp_ge (tgt := 52) hx hb dd_C_takeLetter_35 (by decide) (fun c_37 => ?_) (fun c_37 => ?_)
    · have hF := jv_t c_37 hF
      refine lv_iconst (v := 0) hx hb dd_C_takeLetter_52 (by decide) ?_
      exact bl53 sp y0 0 hF H locs hP hD hS ls (lv_sub hl [1, 0] rfl)
    · have hF := jv_f c_37 hF
      refine lv_aload_n hx hb dd_C_takeLetter_38 rfl (lv_at hl 1 rfl) ?_
      refine va_get (D := (dC, dI)) (ci := 3) (v := .ref h1) (C := cn_C) (T := tt_C) (N := 4) hx hb ht in_C hown hK hP 0 rfl rfl 0 (by decide) (ht _ tw_2_119) (fun _ h9 => h9) rfl dd_C_takeLetter_39 ?_
      refine lv_aload_n hx hb dd_C_takeLetter_42 rfl (lv_at hl 1 rfl) ?_
      refine va_get (D := (dC, dI)) (ci := 3) (v := .int sp) (C := cn_C) (T := tt_C) (N := 4) hx hb ht in_C hown hK hP 0 rfl rfl 2 (by decide) (ht _ tw_2_121) (fun _ h9 => h9) rfl dd_C_takeLetter_43 ?_
      refine lv_iconst (v := 1) hx hb dd_C_takeLetter_46 (by decide) ?_
      refine lv_iadd hx hb dd_C_takeLetter_47 ?_
      obtain ⟨g_38, hF⟩ := jv_gi hF
      refine va_cald hx hb hK hP 1 2 rfl rfl (jv_in g_38) dd_C_takeLetter_48 ?_
      refine lv_goto (tgt := 53) hx hb dd_C_takeLetter_49 (by decide) ?_
      exact bl53 sp y0 (ch (sp + 1).toNatClampNeg) hF H locs hP hD hS ls (lv_sub hl [1, 0] rfl)
  unfold fn_C_takeLetter at hF
  refine lv_aload_n hx hb dd_C_takeLetter_0 rfl (lv_at hl 0 rfl) ?_
  refine va_get (D := (dC, dI)) (ci := 3) (v := .int sp) (C := cn_C) (T := tt_C) (N := 4) hx hb ht in_C hown hK hP 0 rfl rfl 2 (by decide) (ht _ tw_2_121) (fun _ h9 => h9) rfl dd_C_takeLetter_1 ?_
  refine lv_aload_n hx hb dd_C_takeLetter_4 rfl (lv_at hl 0 rfl) ?_
  refine va_get (D := (dC, dI)) (ci := 3) (v := .int le) (C := cn_C) (T := tt_C) (N := 4) hx hb ht in_C hown hK hP 0 rfl rfl 3 (by decide) (ht _ tw_2_122) (fun _ h9 => h9) rfl dd_C_takeLetter_5 ?_
  refine lv_icmp_ge (tgt := 23) hx hb dd_C_takeLetter_8 (by decide) (fun c_39 => ?_) (fun c_39 => ?_)
  · have hF := jv_t c_39 hF
    refine lv_iconst (v := 0) hx hb dd_C_takeLetter_23 (by decide) ?_
    exact bl24 sp 0 hF s.heap [] hP hD hS ls (lv_sub hl [0] rfl)
  · have hF := jv_f c_39 hF
    refine lv_aload_n hx hb dd_C_takeLetter_11 rfl (lv_at hl 0 rfl) ?_
    refine va_get (D := (dC, dI)) (ci := 3) (v := .ref h1) (C := cn_C) (T := tt_C) (N := 4) hx hb ht in_C hown hK hP 0 rfl rfl 0 (by decide) (ht _ tw_2_119) (fun _ h9 => h9) rfl dd_C_takeLetter_12 ?_
    refine lv_aload_n hx hb dd_C_takeLetter_15 rfl (lv_at hl 0 rfl) ?_
    refine va_get (D := (dC, dI)) (ci := 3) (v := .int sp) (C := cn_C) (T := tt_C) (N := 4) hx hb ht in_C hown hK hP 0 rfl rfl 2 (by decide) (ht _ tw_2_121) (fun _ h9 => h9) rfl dd_C_takeLetter_16 ?_
    obtain ⟨g_40, hF⟩ := jv_gi hF
    refine va_cald hx hb hK hP 1 2 rfl rfl (jv_in g_40) dd_C_takeLetter_19 ?_
    refine lv_goto (tgt := 24) hx hb dd_C_takeLetter_20 (by decide) ?_
    exact bl24 sp (ch sp.toNatClampNeg) hF s.heap [] hP hD hS ls (lv_sub hl [0] rfl)
set_option maxHeartbeats 40000000 in
set_option maxRecDepth 100000 in
theorem c_C_skipDigit (l : Launch) (dC : Nat → ClassId) (dI : Nat → Nat → Nat) (cI cL cC cZ : ClassId) (h0 h1 : Nat) (sz : Nat) (cz : Int32) (sp : Int32) (le : Int32) (ch : Nat → Int32) (x1 : Int32) (out : Int32 × Int32) (hF : fn_C_skipDigit le ch sp x1 = some out) : Met l yy_C_skipDigit ws_C_skipDigit { frames := 0, cells := 0, slots := 0, locals := 0 } (mP_ (dC, dI) (tk_ cI cL cC cZ) [(h0, .inr (3, [.ref h1, .int cz, .int sp, .int le])), (h1, .inl (cC, 3000, .inl ch))] sz [.ref h0, .int x1]) (va_Qi (fun r (_ : Unit) => r = out.1) (mB_ (dC, dI) (tk_ cI cL cC cZ) [(h0, .inr (3, [.ref h1, .int cz, .int out.2, .int le])), (h1, .inl (cC, 3000, .inl ch))] (va_A [(h0, .inr (3, [.ref h1, .int cz, .int sp, .int le])), (h1, .inl (cC, 3000, .inl ch))] sz)) (va_A [(h0, .inr (3, [.ref h1, .int cz, .int sp, .int le])), (h1, .inl (cC, 3000, .inl ch))] sz)) 0 0 (va_A [(h0, .inr (3, [.ref h1, .int cz, .int sp, .int le])), (h1, .inl (cC, 3000, .inl ch))] sz) := by
  refine Met.ofW (cc := cc_C_skipDigit) (maxL := 2) (ret := (some .boolean)) (by decide) rfl ?_
  intro p e s m args below meth c s₁ B hml hv
  obtain ⟨hargs, hsz, hP, hK, hD0⟩ := hv
  have hx := B.exec
  have hb := B.bytes
  have hr := B.returns
  have hts := atoms_spec (ws := ws_C_skipDigit) B.pre
  have ht : ∀ w ∈ TB_, w.before args s = true := fun w h => hts w (List.mem_cons_of_mem _ h)
  have hown : s.vm.findClass cn_C = some m.cls := findClass_of_methodNamed B.named
  have hlocks := B.notSynchronized
  subst hsz
  have hD := hD0.self (sz := s.heap.size)
  generalize hAe : va_A [(h0, .inr (3, [.ref h1, .int cz, .int sp, .int le])), (h1, .inl (cC, 3000, .inl ch))] s.heap.size = A at hD ⊢
  have hA : ∀ q : Nat, s.heap.size ≤ q → A q := fun q h => by rw [← hAe]; exact Or.inr h
  have hS : va_S A s.heap s.heap [] := va_S.rf
  have hP : va_P (dC, dI) vwCl [(h0, .inr (3, [.ref h1, .int cz, .int sp, .int le])), (h1, .inl (cC, 3000, .inl ch))] s.heap := hP
  have hl := lv_entry [.ref h0, .int x1] (n := 2) (Nat.le_of_ble_eq_true rfl)
  have he : entryFrame m args 2 = _ := (congrArg (fun a => entryFrame m a 2) hargs).trans (lg_entry_eq m [.ref h0, .int x1] 2)
  rw [he]
  generalize (lg_sl [.ref h0, .int x1] ++ List.replicate (2 - (lg_sl [.ref h0, .int x1]).length) Slot.unset).toArray = ls at hl ⊢
  have hl : lv_has ls 2 [(0, .ref h0), (1, .int x1)] := hl
  generalize hQ : MQ below _ args s _ _ _ = Q
  unfold fn_C_skipDigit at hF
  refine lv_aload_n hx hb dd_C_skipDigit_0 rfl (lv_at hl 0 rfl) ?_
  refine va_get (D := (dC, dI)) (ci := 3) (v := .int sp) (C := cn_C) (T := tt_C) (N := 4) hx hb ht in_C hown hK hP 0 rfl rfl 2 (by decide) (ht _ tw_2_121) (fun _ h9 => h9) rfl dd_C_skipDigit_1 ?_
  refine lv_aload_n hx hb dd_C_skipDigit_4 rfl (lv_at hl 0 rfl) ?_
  refine va_get (D := (dC, dI)) (ci := 3) (v := .int le) (C := cn_C) (T := tt_C) (N := 4) hx hb ht in_C hown hK hP 0 rfl rfl 3 (by decide) (ht _ tw_2_122) (fun _ h9 => h9) rfl dd_C_skipDigit_5 ?_
  refine lv_icmp_ge (tgt := 27) hx hb dd_C_skipDigit_8 (by decide) (fun c_6 => ?_) (fun c_6 => ?_)
  · have hF := jv_t c_6 hF
    refine lv_iconst (v := 0) hx hb dd_C_skipDigit_27 (by decide) ?_
    subst hQ
    obtain rfl := Option.some.inj hF
    exact W.zret (v := 0) hx hb hr rfl (fun t ht hW => ⟨⟨0, (), rfl, rfl, by rw [ht]; exact hP, va_K.moved hW.alike hK, hD⟩, hS.F ht⟩) hS.2.2 dd_C_skipDigit_28
  · have hF := jv_f c_6 hF
    refine lv_aload_n hx hb dd_C_skipDigit_11 rfl (lv_at hl 0 rfl) ?_
    refine va_get (D := (dC, dI)) (ci := 3) (v := .ref h1) (C := cn_C) (T := tt_C) (N := 4) hx hb ht in_C hown hK hP 0 rfl rfl 0 (by decide) (ht _ tw_2_119) (fun _ h9 => h9) rfl dd_C_skipDigit_12 ?_
    refine lv_aload_n hx hb dd_C_skipDigit_15 rfl (lv_at hl 0 rfl) ?_
    refine va_get (D := (dC, dI)) (ci := 3) (v := .int sp) (C := cn_C) (T := tt_C) (N := 4) hx hb ht in_C hown hK hP 0 rfl rfl 2 (by decide) (ht _ tw_2_121) (fun _ h9 => h9) rfl dd_C_skipDigit_16 ?_
    obtain ⟨g_7, hF⟩ := jv_gi hF
    refine va_cald hx hb hK hP 1 2 rfl rfl (jv_in g_7) dd_C_skipDigit_19 ?_
    refine lv_bipush (v := 48) hx hb dd_C_skipDigit_20 (by decide) ?_
    refine lv_iload_n hx hb dd_C_skipDigit_22 rfl (lv_at hl 1 rfl) ?_
    refine lv_iadd hx hb dd_C_skipDigit_23 ?_
    refine lv_icmp_eq (tgt := 29) hx hb dd_C_skipDigit_24 (by decide) (fun c_8 => ?_) (fun c_8 => ?_)
    · have hF := jv_t c_8 hF
      refine lv_aload_n hx hb dd_C_skipDigit_29 rfl (lv_at hl 0 rfl) ?_
      refine lv_dup hx hb dd_C_skipDigit_30 rfl ?_
      refine va_get (D := (dC, dI)) (ci := 3) (v := .int sp) (C := cn_C) (T := tt_C) (N := 4) hx hb ht in_C hown hK hP 0 rfl rfl 2 (by decide) (ht _ tw_2_121) (fun _ h9 => h9) rfl dd_C_skipDigit_31 ?_
      refine lv_iconst (v := 1) hx hb dd_C_skipDigit_34 (by decide) ?_
      refine lv_iadd hx hb dd_C_skipDigit_35 ?_
      refine va_put (D := (dC, dI)) (ci := 3) (v := .int (sp + 1)) (ty := .int) (C := cn_C) (T := tt_C) (N := 4) hx hb ht in_C ty_C tyok_C nm_C hown hK hP hD hS 0 rfl rfl 2 (by decide) (ht _ tw_2_121) (fun _ h9 => h9) rfl (by decide +kernel) rfl rfl (Nat.le_of_ble_eq_true rfl) dd_C_skipDigit_36 (fun H_9 locs_10 hP hD hS => ?_)
      have hP : va_P (dC, dI) vwCl [(h0, .inr (3, [.ref h1, .int cz, .int (sp + 1), .int le])), (h1, .inl (cC, 3000, .inl ch))] H_9 := hP
      have hD : va_D A [(h0, .inr (3, [.ref h1, .int cz, .int (sp + 1), .int le])), (h1, .inl (cC, 3000, .inl ch))] := hD
      refine lv_iconst (v := 1) hx hb dd_C_skipDigit_39 (by decide) ?_
      subst hQ
      obtain rfl := Option.some.inj hF
      exact W.zret (v := 1) hx hb hr rfl (fun t ht hW => ⟨⟨1, (), rfl, rfl, by rw [ht]; exact hP, va_K.moved hW.alike hK, hD⟩, hS.F ht⟩) hS.2.2 dd_C_skipDigit_40
    · have hF := jv_f c_8 hF
      refine lv_iconst (v := 0) hx hb dd_C_skipDigit_27 (by decide) ?_
      subst hQ
      obtain rfl := Option.some.inj hF
      exact W.zret (v := 0) hx hb hr rfl (fun t ht hW => ⟨⟨0, (), rfl, rfl, by rw [ht]; exact hP, va_K.moved hW.alike hK, hD⟩, hS.F ht⟩) hS.2.2 dd_C_skipDigit_28
set_option maxHeartbeats 40000000 in
set_option maxRecDepth 100000 in
theorem c_C_skipNumber (l : Launch) (dC : Nat → ClassId) (dI : Nat → Nat → Nat) (cI cL cC cZ : ClassId) (h0 h1 : Nat) (sz : Nat) (cz : Int32) (sp : Int32) (le : Int32) (ch : Nat → Int32) (x1 : Int32) (out : Int32 × Int32) (hF : fn_C_skipNumber le ch sp x1 = some out) : Met l yy_C_skipNumber ws_C_skipNumber { frames := 1, cells := 0, slots := 0, locals := 21 } (mP_ (dC, dI) (tk_ cI cL cC cZ) [(h0, .inr (3, [.ref h1, .int cz, .int sp, .int le])), (h1, .inl (cC, 3000, .inl ch))] sz [.ref h0, .int x1]) (va_Qi (fun r (_ : Unit) => r = out.1) (mB_ (dC, dI) (tk_ cI cL cC cZ) [(h0, .inr (3, [.ref h1, .int cz, .int out.2, .int le])), (h1, .inl (cC, 3000, .inl ch))] (va_A [(h0, .inr (3, [.ref h1, .int cz, .int sp, .int le])), (h1, .inl (cC, 3000, .inl ch))] sz)) (va_A [(h0, .inr (3, [.ref h1, .int cz, .int sp, .int le])), (h1, .inl (cC, 3000, .inl ch))] sz)) 0 0 (va_A [(h0, .inr (3, [.ref h1, .int cz, .int sp, .int le])), (h1, .inl (cC, 3000, .inl ch))] sz) := by
  refine Met.ofW (cc := cc_C_skipNumber) (maxL := 2) (ret := (some .boolean)) (by decide) rfl ?_
  intro p e s m args below meth c s₁ B hml hv
  obtain ⟨hargs, hsz, hP, hK, hD0⟩ := hv
  have hx := B.exec
  have hb := B.bytes
  have hr := B.returns
  have hts := atoms_spec (ws := ws_C_skipNumber) B.pre
  have ht : ∀ w ∈ TB_, w.before args s = true := fun w h => hts w (List.mem_cons_of_mem _ h)
  have hown : s.vm.findClass cn_C = some m.cls := findClass_of_methodNamed B.named
  have hlocks := B.notSynchronized
  subst hsz
  have hD := hD0.self (sz := s.heap.size)
  generalize hAe : va_A [(h0, .inr (3, [.ref h1, .int cz, .int sp, .int le])), (h1, .inl (cC, 3000, .inl ch))] s.heap.size = A at hD ⊢
  have hA : ∀ q : Nat, s.heap.size ≤ q → A q := fun q h => by rw [← hAe]; exact Or.inr h
  have hS : va_S A s.heap s.heap [] := va_S.rf
  have hP : va_P (dC, dI) vwCl [(h0, .inr (3, [.ref h1, .int cz, .int sp, .int le])), (h1, .inl (cC, 3000, .inl ch))] s.heap := hP
  have hl := lv_entry [.ref h0, .int x1] (n := 2) (Nat.le_of_ble_eq_true rfl)
  have he : entryFrame m args 2 = _ := (congrArg (fun a => entryFrame m a 2) hargs).trans (lg_entry_eq m [.ref h0, .int x1] 2)
  rw [he]
  generalize (lg_sl [.ref h0, .int x1] ++ List.replicate (2 - (lg_sl [.ref h0, .int x1]).length) Slot.unset).toArray = ls at hl ⊢
  have hl : lv_has ls 2 [(0, .ref h0), (1, .int x1)] := hl
  generalize hQ : MQ below _ args s _ _ _ = Q
  have bl17 : ∀ (sp : Int32) (x1 : Int32), fb_C_skipNumber_17 le ch  sp x1 = some out → ∀ (H : Heap) (locs : List Loc), va_P (dC, dI) vwCl [(h0, .inr (3, [.ref h1, .int cz, .int sp, .int le])), (h1, .inl (cC, 3000, .inl ch))] H → va_D A [(h0, .inr (3, [.ref h1, .int cz, .int sp, .int le])), (h1, .inl (cC, 3000, .inl ch))] → va_S A s.heap H locs → ∀ ls : Array Slot, lv_has ls 2 [(0, .ref h0), (1, .int x1)] → W p l e (headSpec ws_C_skipNumber { frames := 1, cells := 0, slots := 0, locals := 21 }).room s m args below meth c H locs 0 0 Q (F0 m 17 ls []) := by
    intro sp x1 hF H locs hP hD hS ls hl
    unfold fb_C_skipNumber_17 at hF
    refine lv_aload_n hx hb dd_C_skipNumber_17 rfl (lv_at hl 0 rfl) ?_
    refine lv_iload_n hx hb dd_C_skipNumber_18 rfl (lv_at hl 1 rfl) ?_
    refine lv_bipush (v := 10) hx hb dd_C_skipNumber_19 (by decide) ?_
    refine lv_irem hx hb dd_C_skipNumber_21 (by decide) ?_
    obtain ⟨o_22, ho_22, hF⟩ := jv_bi hF
    refine jv_mi (wr := []) (w1 := [(h0, .inr (3, [.ref h1, .int cz, .int o_22.2, .int le])), (h1, .inl (cC, 3000, .inl ch))]) (va_runV (C := cn_C) (As := [.int (x1 - x1 / 10 * 10)]) (rest := []) ⟨hx, hb, hml, hown, ht⟩ (c_C_skipDigit l dC dI cI cL cC cZ h0 h1 H.size cz sp le ch (x1 - x1 / 10 * 10) _ ho_22) (cwV 1 ht (gi_V tw_2_189 tw_2_191 tw_p_10 tw_1_12 tw_2_192) rfl rfl rfl (by decide +kernel) ⟨Nat.le_of_ble_eq_true rfl, Nat.le_of_ble_eq_true rfl⟩) (jv_pv hK hP hD [0, 1] rfl (by decide) rfl (va_recv hK hP (ci := 3) (q0 := 0) rfl rfl)) rfl rfl hl.1 rfl (lv_room (Nat.le_of_ble_eq_true rfl)) dd_C_skipNumber_22 ⟨Nat.le_of_ble_eq_true rfl, Nat.le_of_ble_eq_true rfl⟩) hP hD hS hA [0, 1] [] rfl rfl (by decide) (by decide) (fun H_8 locs_9 hP hD hS => ?_)
    have hP : va_P (dC, dI) vwCl [(h0, .inr (3, [.ref h1, .int cz, .int o_22.2, .int le])), (h1, .inl (cC, 3000, .inl ch))] H_8 := hP.sub [0, 1] rfl
    have hD : va_D A [(h0, .inr (3, [.ref h1, .int cz, .int o_22.2, .int le])), (h1, .inl (cC, 3000, .inl ch))] := hD.sub [0, 1] (by decide) rfl
    refine lv_if_eq (tgt := 32) hx hb dd_C_skipNumber_25 (by decide) (fun c_10 => ?_) (fun c_10 => ?_)
    · have hF := jv_t c_10 hF
      refine lv_iconst (v := 0) hx hb dd_C_skipNumber_32 (by decide) ?_
      subst hQ
      obtain rfl := Option.some.inj hF
      exact W.zret (v := 0) hx hb hr rfl (fun t ht hW => ⟨⟨0, (), rfl, rfl, by rw [ht]; exact hP, va_K.moved hW.alike hK, hD⟩, hS.F ht⟩) hS.2.2 dd_C_skipNumber_33
    · have hF := jv_f c_10 hF
      refine lv_iconst (v := 1) hx hb dd_C_skipNumber_28 (by decide) ?_
      refine lv_goto (tgt := 33) hx hb dd_C_skipNumber_29 (by decide) ?_
      subst hQ
      obtain rfl := Option.some.inj hF
      exact W.zret (v := 1) hx hb hr rfl (fun t ht hW => ⟨⟨1, (), rfl, rfl, by rw [ht]; exact hP, va_K.moved hW.alike hK, hD⟩, hS.F ht⟩) hS.2.2 dd_C_skipNumber_33
  unfold fn_C_skipNumber at hF
  refine lv_iload_n hx hb dd_C_skipNumber_0 rfl (lv_at hl 1 rfl) ?_
  refine lv_bipush (v := 10) hx hb dd_C_skipNumber_1 (by decide) ?_
  refine lv_icmp_lt (tgt := 17) hx hb dd_C_skipNumber_3 (by decide) (fun c_11 => ?_) (fun c_11 => ?_)
  · have hF := jv_t c_11 hF
    exact bl17 sp x1 hF s.heap [] hP hD hS ls (lv_sub hl [0, 1] rfl)
  · have hF := jv_f c_11 hF
    refine lv_aload_n hx hb dd_C_skipNumber_6 rfl (lv_at hl 0 rfl) ?_
    refine lv_iload_n hx hb dd_C_skipNumber_7 rfl (lv_at hl 1 rfl) ?_
    refine lv_bipush (v := 10) hx hb dd_C_skipNumber_8 (by decide) ?_
    refine lv_idiv hx hb dd_C_skipNumber_10 (by decide) ?_
    obtain ⟨o_11, ho_11, hF⟩ := jv_bi hF
    refine jv_mi (wr := []) (w1 := [(h0, .inr (3, [.ref h1, .int cz, .int o_11.2, .int le])), (h1, .inl (cC, 3000, .inl ch))]) (va_runV (C := cn_C) (As := [.int (x1 / 10)]) (rest := []) ⟨hx, hb, hml, hown, ht⟩ (c_C_skipDigit l dC dI cI cL cC cZ h0 h1 s.heap.size cz sp le ch (x1 / 10) _ ho_11) (cwV 1 ht (gi_V tw_2_189 tw_2_191 tw_p_10 tw_1_12 tw_2_192) rfl rfl rfl (by decide +kernel) ⟨Nat.le_of_ble_eq_true rfl, Nat.le_of_ble_eq_true rfl⟩) (jv_pv hK hP hD [0, 1] rfl (by decide) rfl (va_recv hK hP (ci := 3) (q0 := 0) rfl rfl)) rfl rfl hl.1 rfl (lv_room (Nat.le_of_ble_eq_true rfl)) dd_C_skipNumber_11 ⟨Nat.le_of_ble_eq_true rfl, Nat.le_of_ble_eq_true rfl⟩) hP hD hS hA [0, 1] [] rfl rfl (by decide) (by decide) (fun H_12 locs_13 hP hD hS => ?_)
    have hP : va_P (dC, dI) vwCl [(h0, .inr (3, [.ref h1, .int cz, .int o_11.2, .int le])), (h1, .inl (cC, 3000, .inl ch))] H_12 := hP.sub [0, 1] rfl
    have hD : va_D A [(h0, .inr (3, [.ref h1, .int cz, .int o_11.2, .int le])), (h1, .inl (cC, 3000, .inl ch))] := hD.sub [0, 1] (by decide) rfl
    refine lv_if_eq (tgt := 32) hx hb dd_C_skipNumber_14 (by decide) (fun c_14 => ?_) (fun c_14 => ?_)
    · have hF := jv_t c_14 hF
      refine lv_iconst (v := 0) hx hb dd_C_skipNumber_32 (by decide) ?_
      subst hQ
      obtain rfl := Option.some.inj hF
      exact W.zret (v := 0) hx hb hr rfl (fun t ht hW => ⟨⟨0, (), rfl, rfl, by rw [ht]; exact hP, va_K.moved hW.alike hK, hD⟩, hS.F ht⟩) hS.2.2 dd_C_skipNumber_33
    · have hF := jv_f c_14 hF
      exact bl17 o_11.2 x1 hF H_12 locs_13 hP hD hS ls (lv_sub hl [0, 1] rfl)
set_option maxHeartbeats 40000000 in
set_option maxRecDepth 100000 in
theorem c_C_takeName (l : Launch) (dC : Nat → ClassId) (dI : Nat → Nat → Nat) (cI cL cC cZ : ClassId) (h0 h1 : Nat) (sz : Nat) (cz : Int32) (sp : Int32) (le : Int32) (ch : Nat → Int32)  (out : Int64 × Int32) (hF : fn_C_takeName le ch sp = some out) : Met l yy_C_takeName ws_C_takeName { frames := 1, cells := 0, slots := 0, locals := 23 } (mP_ (dC, dI) (tk_ cI cL cC cZ) [(h0, .inr (3, [.ref h1, .int cz, .int sp, .int le])), (h1, .inl (cC, 3000, .inl ch))] sz [.ref h0]) (va_Ql (fun r (_ : Unit) => r = out.1) (mB_ (dC, dI) (tk_ cI cL cC cZ) [(h0, .inr (3, [.ref h1, .int cz, .int out.2, .int le])), (h1, .inl (cC, 3000, .inl ch))] (va_A [(h0, .inr (3, [.ref h1, .int cz, .int sp, .int le])), (h1, .inl (cC, 3000, .inl ch))] sz)) (va_A [(h0, .inr (3, [.ref h1, .int cz, .int sp, .int le])), (h1, .inl (cC, 3000, .inl ch))] sz)) 0 0 (va_A [(h0, .inr (3, [.ref h1, .int cz, .int sp, .int le])), (h1, .inl (cC, 3000, .inl ch))] sz) := by
  refine Met.ofW (cc := cc_C_takeName) (maxL := 5) (ret := (some .long)) (by decide) rfl ?_
  intro p e s m args below meth c s₁ B hml hv
  obtain ⟨hargs, hsz, hP, hK, hD0⟩ := hv
  have hx := B.exec
  have hb := B.bytes
  have hr := B.returns
  have hts := atoms_spec (ws := ws_C_takeName) B.pre
  have ht : ∀ w ∈ TB_, w.before args s = true := fun w h => hts w (List.mem_cons_of_mem _ h)
  have hown : s.vm.findClass cn_C = some m.cls := findClass_of_methodNamed B.named
  have hlocks := B.notSynchronized
  subst hsz
  have hD := hD0.self (sz := s.heap.size)
  generalize hAe : va_A [(h0, .inr (3, [.ref h1, .int cz, .int sp, .int le])), (h1, .inl (cC, 3000, .inl ch))] s.heap.size = A at hD ⊢
  have hA : ∀ q : Nat, s.heap.size ≤ q → A q := fun q h => by rw [← hAe]; exact Or.inr h
  have hS : va_S A s.heap s.heap [] := va_S.rf
  have hP : va_P (dC, dI) vwCl [(h0, .inr (3, [.ref h1, .int cz, .int sp, .int le])), (h1, .inl (cC, 3000, .inl ch))] s.heap := hP
  have hl := lv_entry [.ref h0] (n := 5) (Nat.le_of_ble_eq_true rfl)
  have he : entryFrame m args 5 = _ := (congrArg (fun a => entryFrame m a 5) hargs).trans (lg_entry_eq m [.ref h0] 5)
  rw [he]
  generalize (lg_sl [.ref h0] ++ List.replicate (5 - (lg_sl [.ref h0]).length) Slot.unset).toArray = ls at hl ⊢
  have hl : lv_has ls 5 [(0, .ref h0)] := hl
  generalize hQ : MQ below _ args s _ _ _ = Q
  have lp4 : ∀ (n4 : Nat), ∀ (sp : Int32) (x1 : Int64) (x3 : Int32), fl_C_takeName_4 le ch  n4 (sp, x1, x3) = some out → ∀ (H : Heap) (locs : List Loc), va_P (dC, dI) vwCl [(h0, .inr (3, [.ref h1, .int cz, .int sp, .int le])), (h1, .inl (cC, 3000, .inl ch))] H → va_D A [(h0, .inr (3, [.ref h1, .int cz, .int sp, .int le])), (h1, .inl (cC, 3000, .inl ch))] → va_S A s.heap H locs → ∀ ls : Array Slot, lv_has ls 5 [(0, .ref h0), (1, .long x1), (3, .int x3)] → W p l e (headSpec ws_C_takeName { frames := 1, cells := 0, slots := 0, locals := 23 }).room s m args below meth c H locs 0 0 Q (F0 m 4 ls []) := by
    intro n4
    induction n4 with
    | zero =>
      intro sp x1 x3 hF
      exact (jv_no hF).elim
    | succ n4 ih4 =>
      intro sp x1 x3 hF H locs hP hD hS ls hl
      have hF : fb_C_takeName_4 le ch  (fl_C_takeName_4 le ch  n4) sp x1 x3 = some out := hF
      unfold fb_C_takeName_4 at hF
      refine lv_iload_n hx hb dd_C_takeName_4 rfl (lv_at hl 2 rfl) ?_
      refine lv_bipush (v := 6) hx hb dd_C_takeName_5 (by decide) ?_
      refine lv_icmp_ge (tgt := 37) hx hb dd_C_takeName_7 (by decide) (fun c_5 => ?_) (fun c_5 => ?_)
      · have hF := jv_t c_5 hF
        refine lv_lload_n hx hb dd_C_takeName_37 rfl (lv_at hl 1 rfl) ?_
        subst hQ
        obtain rfl := Option.some.inj hF
        exact W.lret (v := x1) hx hb hr (fun t ht hW => ⟨⟨x1, (), rfl, rfl, by rw [ht]; exact hP, va_K.moved hW.alike hK, hD⟩, hS.F ht⟩) hS.2.2 dd_C_takeName_38
      · have hF := jv_f c_5 hF
        refine lv_aload_n hx hb dd_C_takeName_10 rfl (lv_at hl 0 rfl) ?_
        obtain ⟨o_11, ho_11, hF⟩ := jv_bi hF
        refine jv_mi (wr := []) (w1 := [(h0, .inr (3, [.ref h1, .int cz, .int o_11.2, .int le])), (h1, .inl (cC, 3000, .inl ch))]) (va_runV (C := cn_C) (As := []) (rest := []) ⟨hx, hb, hml, hown, ht⟩ (c_C_takeLetter l dC dI cI cL cC cZ h0 h1 H.size cz sp le ch _ ho_11) (cwV 0 ht (gi_V tw_2_198 tw_2_200 tw_p_11 tw_1_12 tw_2_201) rfl rfl rfl (by decide +kernel) ⟨Nat.le_of_ble_eq_true rfl, Nat.le_of_ble_eq_true rfl⟩) (jv_pv hK hP hD [0, 1] rfl (by decide) rfl (va_recv hK hP (ci := 3) (q0 := 0) rfl rfl)) rfl rfl hl.1 rfl (lv_room (Nat.le_of_ble_eq_true rfl)) dd_C_takeName_11 ⟨Nat.le_of_ble_eq_true rfl, Nat.le_of_ble_eq_true rfl⟩) hP hD hS hA [0, 1] [] rfl rfl (by decide) (by decide) (fun H_6 locs_7 hP hD hS => ?_)
        have hP : va_P (dC, dI) vwCl [(h0, .inr (3, [.ref h1, .int cz, .int o_11.2, .int le])), (h1, .inl (cC, 3000, .inl ch))] H_6 := hP.sub [0, 1] rfl
        have hD : va_D A [(h0, .inr (3, [.ref h1, .int cz, .int o_11.2, .int le])), (h1, .inl (cC, 3000, .inl ch))] := hD.sub [0, 1] (by decide) rfl
        refine lv_istore (lv' := [(4, .int o_11.1), (0, .ref h0), (1, .long x1), (3, .int x3)]) hx hb dd_C_takeName_14 hl (by decide) rfl (fun ls hl => ?_)
        refine lv_iload hx hb dd_C_takeName_16 (lv_at hl 0 rfl) ?_
        refine lv_if_ne (tgt := 23) hx hb dd_C_takeName_18 (by decide) (fun c_8 => ?_) (fun c_8 => ?_)
        · have hF := jv_f c_8 hF
          refine lv_lload_n hx hb dd_C_takeName_23 rfl (lv_at hl 2 rfl) ?_
          refine lv_iload_n hx hb dd_C_takeName_24 rfl (lv_at hl 3 rfl) ?_
          refine lv_iload hx hb dd_C_takeName_25 (lv_at hl 0 rfl) ?_
          obtain ⟨o_27, ho_27, hF⟩ := jv_bi hF
          refine jv_cl (va_runS (As := [.long x1, .int x3, .int o_11.1]) (rest := []) ⟨hx, hb, hml, hown, ht⟩ (c_N_withLetter l dC dI cI cL cC cZ H_6.size x1 x3 o_11.1 _ ho_27) (va_cwS 3 ht (gi_S tw_2_202 tw_1_92 tw_1_5 tw_1_93) rfl rfl rfl (by decide +kernel) ⟨Nat.le_of_ble_eq_true rfl, Nat.le_of_ble_eq_true rfl⟩) (jv_ps hK hP hD [] rfl (by decide) rfl) rfl rfl hl.1 rfl (lv_room (Nat.le_of_ble_eq_true rfl)) dd_C_takeName_27 ⟨Nat.le_of_ble_eq_true rfl, Nat.le_of_ble_eq_true rfl⟩) ?_
          refine lv_lstore_n (lv' := [(1, .long o_27), (4, .int o_11.1), (0, .ref h0), (3, .int x3)]) hx hb dd_C_takeName_30 rfl hl (by decide) rfl (fun ls hl => ?_)
          refine lv_iinc (v := x3 + 1) (lv' := [(3, .int (x3 + 1)), (1, .long o_27), (4, .int o_11.1), (0, .ref h0)]) hx hb dd_C_takeName_31 hl (k := 3) rfl rfl (by decide) rfl (fun ls hl => ?_)
          refine lv_goto (tgt := 4) hx hb dd_C_takeName_34 (by decide) ?_
          exact ih4 o_11.2 o_27 (x3 + 1) hF H_6 locs_7 hP hD hS ls (lv_sub hl [3, 1, 0] rfl)
        · have hF := jv_t c_8 hF
          refine lv_lload_n hx hb dd_C_takeName_21 rfl (lv_at hl 2 rfl) ?_
          subst hQ
          obtain rfl := Option.some.inj hF
          exact W.lret (v := x1) hx hb hr (fun t ht hW => ⟨⟨x1, (), rfl, rfl, by rw [ht]; exact hP, va_K.moved hW.alike hK, hD⟩, hS.F ht⟩) hS.2.2 dd_C_takeName_22
  unfold fn_C_takeName at hF
  refine lv_lconst (v := 0) hx hb dd_C_takeName_0 (by decide) ?_
  refine lv_lstore_n (lv' := [(1, .long 0), (0, .ref h0)]) hx hb dd_C_takeName_1 rfl hl (by decide) rfl (fun ls hl => ?_)
  refine lv_iconst (v := 0) hx hb dd_C_takeName_2 (by decide) ?_
  refine lv_istore_n (lv' := [(3, .int 0), (1, .long 0), (0, .ref h0)]) hx hb dd_C_takeName_3 rfl hl (by decide) rfl (fun ls hl => ?_)
  exact lp4 4000 sp 0 0 hF s.heap [] hP hD hS ls (lv_sub hl [2, 1, 0] rfl)
