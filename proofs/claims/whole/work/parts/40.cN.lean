set_option maxHeartbeats 40000000 in
set_option maxRecDepth 100000 in
theorem c_N_codeAt (l : Launch) (dC : Nat → ClassId) (dI : Nat → Nat → Nat) (cI cL cC cZ : ClassId) (sz : Nat)  (x0 : Int64) (x2 : Int32) (out : Int32) (hF : fn_N_codeAt x0 x2 = some out) : Met l yy_N_codeAt ws_N_codeAt { frames := 0, cells := 0, slots := 0, locals := 0 } (mP_ (dC, dI) (tk_ cI cL cC cZ) [] sz [.long x0, .int x2]) (vp_Si (fun r => r = out)) 0 0 (fun _ => False) := by
  refine Met.ofW (cc := cc_N_codeAt) (maxL := 3) (ret := (some .int)) (by decide) rfl ?_
  intro p e s m args below meth c s₁ B hml hv
  obtain ⟨hargs, hsz, hP, hK, hD0⟩ := hv
  have hx := B.exec
  have hb := B.bytes
  have hr := B.returns
  have hts := atoms_spec (ws := ws_N_codeAt) B.pre
  have ht : ∀ w ∈ TB_, w.before args s = true := fun w h => hts w (List.mem_cons_of_mem _ h)
  have hown : s.vm.findClass cn_N = some m.cls := findClass_of_methodNamed B.named
  have hlocks := B.notSynchronized
  subst hsz
  have hD := hD0.self (sz := s.heap.size)
  generalize hAe : va_A [] s.heap.size = A at hD
  have hA : ∀ q : Nat, s.heap.size ≤ q → A q := fun q h => by rw [← hAe]; exact Or.inr h
  have hS : va_S A s.heap s.heap [] := va_S.rf
  have hP : va_P (dC, dI) vwCl [] s.heap := hP
  have hl := lv_entry [.long x0, .int x2] (n := 3) (Nat.le_of_ble_eq_true rfl)
  have he : entryFrame m args 3 = _ := (congrArg (fun a => entryFrame m a 3) hargs).trans (lg_entry_eq m [.long x0, .int x2] 3)
  rw [he]
  generalize (lg_sl [.long x0, .int x2] ++ List.replicate (3 - (lg_sl [.long x0, .int x2]).length) Slot.unset).toArray = ls at hl ⊢
  have hl : lv_has ls 3 [(0, .long x0), (2, .int x2)] := hl
  generalize hQ : MQ below _ args s _ _ _ = Q
  unfold fn_N_codeAt at hF
  refine lv_lload_n hx hb dd_N_codeAt_0 rfl (lv_at hl 0 rfl) ?_
  refine lv_bipush (v := 7) hx hb dd_N_codeAt_1 (by decide) ?_
  refine lv_iload_n hx hb dd_N_codeAt_3 rfl (lv_at hl 1 rfl) ?_
  refine lv_imul hx hb dd_N_codeAt_4 ?_
  refine lv_lushr hx hb dd_N_codeAt_5 rfl ?_
  refine lv_l2i hx hb dd_N_codeAt_6 rfl ?_
  refine lv_bipush (v := 127) hx hb dd_N_codeAt_7 (by decide) ?_
  refine lv_iand hx hb dd_N_codeAt_9 ?_
  subst hQ
  exact W.iret (v := (((x0.toUInt64 >>> ((7 * x2).toInt64.toUInt64 &&& Int64.toUInt64 63)).toInt64).toInt32) &&& 127) hx hb hr (fun t ht hW => ⟨(((x0.toUInt64 >>> ((7 * x2).toInt64.toUInt64 &&& Int64.toUInt64 63)).toInt64).toInt32) &&& 127, rfl, (Option.some.inj hF), ht⟩) (fun _ h => by cases h) dd_N_codeAt_10
set_option maxHeartbeats 40000000 in
set_option maxRecDepth 100000 in
theorem c_N_withLetter (l : Launch) (dC : Nat → ClassId) (dI : Nat → Nat → Nat) (cI cL cC cZ : ClassId) (sz : Nat)  (x0 : Int64) (x2 : Int32) (x3 : Int32) (out : Int64) (hF : fn_N_withLetter x0 x2 x3 = some out) : Met l yy_N_withLetter ws_N_withLetter { frames := 0, cells := 0, slots := 0, locals := 0 } (mP_ (dC, dI) (tk_ cI cL cC cZ) [] sz [.long x0, .int x2, .int x3]) (vp_Sl (fun r => r = out)) 0 0 (fun _ => False) := by
  refine Met.ofW (cc := cc_N_withLetter) (maxL := 4) (ret := (some .long)) (by decide) rfl ?_
  intro p e s m args below meth c s₁ B hml hv
  obtain ⟨hargs, hsz, hP, hK, hD0⟩ := hv
  have hx := B.exec
  have hb := B.bytes
  have hr := B.returns
  have hts := atoms_spec (ws := ws_N_withLetter) B.pre
  have ht : ∀ w ∈ TB_, w.before args s = true := fun w h => hts w (List.mem_cons_of_mem _ h)
  have hown : s.vm.findClass cn_N = some m.cls := findClass_of_methodNamed B.named
  have hlocks := B.notSynchronized
  subst hsz
  have hD := hD0.self (sz := s.heap.size)
  generalize hAe : va_A [] s.heap.size = A at hD
  have hA : ∀ q : Nat, s.heap.size ≤ q → A q := fun q h => by rw [← hAe]; exact Or.inr h
  have hS : va_S A s.heap s.heap [] := va_S.rf
  have hP : va_P (dC, dI) vwCl [] s.heap := hP
  have hl := lv_entry [.long x0, .int x2, .int x3] (n := 4) (Nat.le_of_ble_eq_true rfl)
  have he : entryFrame m args 4 = _ := (congrArg (fun a => entryFrame m a 4) hargs).trans (lg_entry_eq m [.long x0, .int x2, .int x3] 4)
  rw [he]
  generalize (lg_sl [.long x0, .int x2, .int x3] ++ List.replicate (4 - (lg_sl [.long x0, .int x2, .int x3]).length) Slot.unset).toArray = ls at hl ⊢
  have hl : lv_has ls 4 [(0, .long x0), (2, .int x2), (3, .int x3)] := hl
  generalize hQ : MQ below _ args s _ _ _ = Q
  unfold fn_N_withLetter at hF
  refine lv_lload_n hx hb dd_N_withLetter_0 rfl (lv_at hl 0 rfl) ?_
  refine lv_iload_n hx hb dd_N_withLetter_1 rfl (lv_at hl 2 rfl) ?_
  refine lv_i2l hx hb dd_N_withLetter_2 rfl ?_
  refine lv_bipush (v := 7) hx hb dd_N_withLetter_3 (by decide) ?_
  refine lv_iload_n hx hb dd_N_withLetter_5 rfl (lv_at hl 1 rfl) ?_
  refine lv_imul hx hb dd_N_withLetter_6 ?_
  refine lv_lshl hx hb dd_N_withLetter_7 rfl ?_
  refine lv_lor hx hb dd_N_withLetter_8 ?_
  subst hQ
  exact W.lret (v := x0 ||| (x3.toInt64 <<< ((7 * x2).toInt64 &&& 63))) hx hb hr (fun t ht hW => ⟨x0 ||| (x3.toInt64 <<< ((7 * x2).toInt64 &&& 63)), rfl, (Option.some.inj hF), ht⟩) (fun _ h => by cases h) dd_N_withLetter_9
set_option maxHeartbeats 40000000 in
set_option maxRecDepth 100000 in
theorem c_N_sizeOf (l : Launch) (dC : Nat → ClassId) (dI : Nat → Nat → Nat) (cI cL cC cZ : ClassId) (sz : Nat)  (x0 : Int64) (out : Int32) (hF : fn_N_sizeOf x0 = some out) : Met l yy_N_sizeOf ws_N_sizeOf { frames := 1, cells := 0, slots := 0, locals := 22 } (mP_ (dC, dI) (tk_ cI cL cC cZ) [] sz [.long x0]) (vp_Si (fun r => r = out)) 0 0 (fun _ => False) := by
  refine Met.ofW (cc := cc_N_sizeOf) (maxL := 3) (ret := (some .int)) (by decide) rfl ?_
  intro p e s m args below meth c s₁ B hml hv
  obtain ⟨hargs, hsz, hP, hK, hD0⟩ := hv
  have hx := B.exec
  have hb := B.bytes
  have hr := B.returns
  have hts := atoms_spec (ws := ws_N_sizeOf) B.pre
  have ht : ∀ w ∈ TB_, w.before args s = true := fun w h => hts w (List.mem_cons_of_mem _ h)
  have hown : s.vm.findClass cn_N = some m.cls := findClass_of_methodNamed B.named
  have hlocks := B.notSynchronized
  subst hsz
  have hD := hD0.self (sz := s.heap.size)
  generalize hAe : va_A [] s.heap.size = A at hD
  have hA : ∀ q : Nat, s.heap.size ≤ q → A q := fun q h => by rw [← hAe]; exact Or.inr h
  have hS : va_S A s.heap s.heap [] := va_S.rf
  have hP : va_P (dC, dI) vwCl [] s.heap := hP
  have hl := lv_entry [.long x0] (n := 3) (Nat.le_of_ble_eq_true rfl)
  have he : entryFrame m args 3 = _ := (congrArg (fun a => entryFrame m a 3) hargs).trans (lg_entry_eq m [.long x0] 3)
  rw [he]
  generalize (lg_sl [.long x0] ++ List.replicate (3 - (lg_sl [.long x0]).length) Slot.unset).toArray = ls at hl ⊢
  have hl : lv_has ls 3 [(0, .long x0)] := hl
  generalize hQ : MQ below _ args s _ _ _ = Q
  have lp2 : ∀ (n2 : Nat), ∀ (x0 : Int64) (x2 : Int32), fl_N_sizeOf_2   n2 (x0, x2) = some out → ∀ ls : Array Slot, lv_has ls 3 [(0, .long x0), (2, .int x2)] → W p l e (headSpec ws_N_sizeOf { frames := 1, cells := 0, slots := 0, locals := 22 }).room s m args below meth c s.heap [] 0 0 Q (F0 m 2 ls []) := by
    intro n2
    induction n2 with
    | zero =>
      intro x0 x2 hF
      exact (jv_no hF).elim
    | succ n2 ih2 =>
      intro x0 x2 hF ls hl
      have hF : fb_N_sizeOf_2   (fl_N_sizeOf_2   n2) x0 x2 = some out := hF
      unfold fb_N_sizeOf_2 at hF
      refine lv_iload_n hx hb dd_N_sizeOf_2 rfl (lv_at hl 1 rfl) ?_
      refine lv_bipush (v := 6) hx hb dd_N_sizeOf_3 (by decide) ?_
      refine lv_icmp_ge (tgt := 22) hx hb dd_N_sizeOf_5 (by decide) (fun c_3 => ?_) (fun c_3 => ?_)
      · have hF := jv_t c_3 hF
        refine lv_iload_n hx hb dd_N_sizeOf_22 rfl (lv_at hl 1 rfl) ?_
        subst hQ
        exact W.iret (v := x2) hx hb hr (fun t ht hW => ⟨x2, rfl, (Option.some.inj hF), ht⟩) (fun _ h => by cases h) dd_N_sizeOf_23
      · have hF := jv_f c_3 hF
        refine lv_lload_n hx hb dd_N_sizeOf_8 rfl (lv_at hl 0 rfl) ?_
        refine lv_iload_n hx hb dd_N_sizeOf_9 rfl (lv_at hl 1 rfl) ?_
        obtain ⟨o_10, ho_10, hF⟩ := jv_bi hF
        refine jv_ci (va_runS (As := [.long x0, .int x2]) (rest := []) ⟨hx, hb, hml, hown, ht⟩ (c_N_codeAt l dC dI cI cL cC cZ s.heap.size x0 x2 _ ho_10) (va_cwS 2 ht (gi_S tw_1_85 tw_1_86 tw_1_5 tw_1_87) rfl rfl rfl (by decide +kernel) ⟨Nat.le_of_ble_eq_true rfl, Nat.le_of_ble_eq_true rfl⟩) (jv_ps hK hP hD [] rfl (by decide) rfl) rfl rfl hl.1 rfl (lv_room (Nat.le_of_ble_eq_true rfl)) dd_N_sizeOf_10 ⟨Nat.le_of_ble_eq_true rfl, Nat.le_of_ble_eq_true rfl⟩) ?_
        refine lv_if_eq (tgt := 22) hx hb dd_N_sizeOf_13 (by decide) (fun c_4 => ?_) (fun c_4 => ?_)
        · have hF := jv_t c_4 hF
          refine lv_iload_n hx hb dd_N_sizeOf_22 rfl (lv_at hl 1 rfl) ?_
          subst hQ
          exact W.iret (v := x2) hx hb hr (fun t ht hW => ⟨x2, rfl, (Option.some.inj hF), ht⟩) (fun _ h => by cases h) dd_N_sizeOf_23
        · have hF := jv_f c_4 hF
          refine lv_iinc (v := x2 + 1) (lv' := [(2, .int (x2 + 1)), (0, .long x0)]) hx hb dd_N_sizeOf_16 hl (k := 1) rfl rfl (by decide) rfl (fun ls hl => ?_)
          refine lv_goto (tgt := 2) hx hb dd_N_sizeOf_19 (by decide) ?_
          exact ih2 x0 (x2 + 1) hF ls (lv_sub hl [1, 0] rfl)
  unfold fn_N_sizeOf at hF
  refine lv_iconst (v := 0) hx hb dd_N_sizeOf_0 (by decide) ?_
  refine lv_istore_n (lv' := [(2, .int 0), (0, .long x0)]) hx hb dd_N_sizeOf_1 rfl hl (by decide) rfl (fun ls hl => ?_)
  exact lp2 4000 x0 0 hF ls (lv_sub hl [1, 0] rfl)
