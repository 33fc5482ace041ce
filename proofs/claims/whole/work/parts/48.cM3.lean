set_option maxHeartbeats 40000000 in
set_option maxRecDepth 100000 in
theorem c_M_eatName (l : Launch) (dC : Nat → ClassId) (dI : Nat → Nat → Nat) (cI cL cC cZ : ClassId) (h0 h1 h2 h3 h4 h5 h6 h7 h8 h9 : Nat) (sz : Nat) (bg : Int32) (ln : Int32) (mt : Int32) (en : Int32) (sx : Int32) (pl : Int32) (ov : Int32) (tk : Int32) (na : Nat → Int32) (cu : Nat → Int32) (pa : Nat → Int32) (re : Nat → Int32) (cl : Nat → Int32) (si : Nat → Int32) (lt : Nat → Int32) (pg : Nat → Int32) (rd : Nat → Int32) (x1 : Int32) (out : Int32 × Int32 × Int32 × (Nat → Int32)) (hF : fn_M_eatName pg mt tk rd x1 = some out) : Met l yy_M_eatName ws_M_eatName { frames := 0, cells := 0, slots := 0, locals := 0 } (mP_ (dC, dI) (tk_ cI cL cC cZ) [(h0, .inr (6, [.int bg, .ref h1, .ref h2, .ref h3, .ref h4, .ref h5, .ref h6, .ref h7, .int ln, .ref h8, .int mt, .int en, .int sx, .int pl, .int ov, .int tk, .ref h9])), (h1, .inl (cC, 6, .inl na)), (h2, .inl (cI, 2, .inl cu)), (h3, .inl (cI, 48, .inl pa)), (h4, .inl (cI, 48, .inl re)), (h5, .inl (cZ, 48, .inl cl)), (h6, .inl (cI, 48, .inl si)), (h7, .inl (cC, 288, .inl lt)), (h8, .inl (cC, 3000, .inl pg)), (h9, .inl (cC, 6, .inl rd))] sz [.ref h0, .int x1]) (va_Qi (fun r (_ : Unit) => r = out.1) (mB_ (dC, dI) (tk_ cI cL cC cZ) [(h0, .inr (6, [.int bg, .ref h1, .ref h2, .ref h3, .ref h4, .ref h5, .ref h6, .ref h7, .int ln, .ref h8, .int out.2.1, .int en, .int sx, .int pl, .int ov, .int out.2.2.1, .ref h9])), (h1, .inl (cC, 6, .inl na)), (h2, .inl (cI, 2, .inl cu)), (h3, .inl (cI, 48, .inl pa)), (h4, .inl (cI, 48, .inl re)), (h5, .inl (cZ, 48, .inl cl)), (h6, .inl (cI, 48, .inl si)), (h7, .inl (cC, 288, .inl lt)), (h8, .inl (cC, 3000, .inl pg)), (h9, .inl (cC, 6, .inl out.2.2.2))] (va_A [(h0, .inr (6, [.int bg, .ref h1, .ref h2, .ref h3, .ref h4, .ref h5, .ref h6, .ref h7, .int ln, .ref h8, .int mt, .int en, .int sx, .int pl, .int ov, .int tk, .ref h9])), (h1, .inl (cC, 6, .inl na)), (h2, .inl (cI, 2, .inl cu)), (h3, .inl (cI, 48, .inl pa)), (h4, .inl (cI, 48, .inl re)), (h5, .inl (cZ, 48, .inl cl)), (h6, .inl (cI, 48, .inl si)), (h7, .inl (cC, 288, .inl lt)), (h8, .inl (cC, 3000, .inl pg)), (h9, .inl (cC, 6, .inl rd))] sz)) (va_A [(h0, .inr (6, [.int bg, .ref h1, .ref h2, .ref h3, .ref h4, .ref h5, .ref h6, .ref h7, .int ln, .ref h8, .int mt, .int en, .int sx, .int pl, .int ov, .int tk, .ref h9])), (h1, .inl (cC, 6, .inl na)), (h2, .inl (cI, 2, .inl cu)), (h3, .inl (cI, 48, .inl pa)), (h4, .inl (cI, 48, .inl re)), (h5, .inl (cZ, 48, .inl cl)), (h6, .inl (cI, 48, .inl si)), (h7, .inl (cC, 288, .inl lt)), (h8, .inl (cC, 3000, .inl pg)), (h9, .inl (cC, 6, .inl rd))] sz)) 0 0 (va_A [(h0, .inr (6, [.int bg, .ref h1, .ref h2, .ref h3, .ref h4, .ref h5, .ref h6, .ref h7, .int ln, .ref h8, .int mt, .int en, .int sx, .int pl, .int ov, .int tk, .ref h9])), (h1, .inl (cC, 6, .inl na)), (h2, .inl (cI, 2, .inl cu)), (h3, .inl (cI, 48, .inl pa)), (h4, .inl (cI, 48, .inl re)), (h5, .inl (cZ, 48, .inl cl)), (h6, .inl (cI, 48, .inl si)), (h7, .inl (cC, 288, .inl lt)), (h8, .inl (cC, 3000, .inl pg)), (h9, .inl (cC, 6, .inl rd))] sz) := by
  refine Met.ofW (cc := cc_M_eatName) (maxL := 3) (ret := (some .boolean)) (by decide) rfl ?_
  intro p e s m args below meth c s₁ B hml hv
  obtain ⟨hargs, hsz, hP, hK, hD0⟩ := hv
  have hx := B.exec
  have hb := B.bytes
  have hr := B.returns
  have hts := atoms_spec (ws := ws_M_eatName) B.pre
  have ht : ∀ w ∈ TB_, w.before args s = true := fun w h => hts w (List.mem_cons_of_mem _ h)
  have hown : s.vm.findClass cn_M = some m.cls := findClass_of_methodNamed B.named
  have hlocks := B.notSynchronized
  subst hsz
  have hD := hD0.self (sz := s.heap.size)
  generalize hAe : va_A [(h0, .inr (6, [.int bg, .ref h1, .ref h2, .ref h3, .ref h4, .ref h5, .ref h6, .ref h7, .int ln, .ref h8, .int mt, .int en, .int sx, .int pl, .int ov, .int tk, .ref h9])), (h1, .inl (cC, 6, .inl na)), (h2, .inl (cI, 2, .inl cu)), (h3, .inl (cI, 48, .inl pa)), (h4, .inl (cI, 48, .inl re)), (h5, .inl (cZ, 48, .inl cl)), (h6, .inl (cI, 48, .inl si)), (h7, .inl (cC, 288, .inl lt)), (h8, .inl (cC, 3000, .inl pg)), (h9, .inl (cC, 6, .inl rd))] s.heap.size = A at hD ⊢
  have hA : ∀ q : Nat, s.heap.size ≤ q → A q := fun q h => by rw [← hAe]; exact Or.inr h
  have hS : va_S A s.heap s.heap [] := va_S.rf
  have hP : va_P (dC, dI) vwCl [(h0, .inr (6, [.int bg, .ref h1, .ref h2, .ref h3, .ref h4, .ref h5, .ref h6, .ref h7, .int ln, .ref h8, .int mt, .int en, .int sx, .int pl, .int ov, .int tk, .ref h9])), (h1, .inl (cC, 6, .inl na)), (h2, .inl (cI, 2, .inl cu)), (h3, .inl (cI, 48, .inl pa)), (h4, .inl (cI, 48, .inl re)), (h5, .inl (cZ, 48, .inl cl)), (h6, .inl (cI, 48, .inl si)), (h7, .inl (cC, 288, .inl lt)), (h8, .inl (cC, 3000, .inl pg)), (h9, .inl (cC, 6, .inl rd))] s.heap := hP
  have hl := lv_entry [.ref h0, .int x1] (n := 3) (Nat.le_of_ble_eq_true rfl)
  have he : entryFrame m args 3 = _ := (congrArg (fun a => entryFrame m a 3) hargs).trans (lg_entry_eq m [.ref h0, .int x1] 3)
  rw [he]
  generalize (lg_sl [.ref h0, .int x1] ++ List.replicate (3 - (lg_sl [.ref h0, .int x1]).length) Slot.unset).toArray = ls at hl ⊢
  have hl : lv_has ls 3 [(0, .ref h0), (1, .int x1)] := hl
  generalize hQ : MQ below _ args s _ _ _ = Q
  have lp5 : ∀ (n5 : Nat), ∀ (mt : Int32) (tk : Int32) (rd : Nat → Int32) (x1 : Int32), fl_M_eatName_5 pg  n5 (mt, tk, rd, x1) = some out → ∀ (H : Heap) (locs : List Loc), va_P (dC, dI) vwCl [(h0, .inr (6, [.int bg, .ref h1, .ref h2, .ref h3, .ref h4, .ref h5, .ref h6, .ref h7, .int ln, .ref h8, .int mt, .int en, .int sx, .int pl, .int ov, .int tk, .ref h9])), (h1, .inl (cC, 6, .inl na)), (h2, .inl (cI, 2, .inl cu)), (h3, .inl (cI, 48, .inl pa)), (h4, .inl (cI, 48, .inl re)), (h5, .inl (cZ, 48, .inl cl)), (h6, .inl (cI, 48, .inl si)), (h7, .inl (cC, 288, .inl lt)), (h8, .inl (cC, 3000, .inl pg)), (h9, .inl (cC, 6, .inl rd))] H → va_D A [(h0, .inr (6, [.int bg, .ref h1, .ref h2, .ref h3, .ref h4, .ref h5, .ref h6, .ref h7, .int ln, .ref h8, .int mt, .int en, .int sx, .int pl, .int ov, .int tk, .ref h9])), (h1, .inl (cC, 6, .inl na)), (h2, .inl (cI, 2, .inl cu)), (h3, .inl (cI, 48, .inl pa)), (h4, .inl (cI, 48, .inl re)), (h5, .inl (cZ, 48, .inl cl)), (h6, .inl (cI, 48, .inl si)), (h7, .inl (cC, 288, .inl lt)), (h8, .inl (cC, 3000, .inl pg)), (h9, .inl (cC, 6, .inl rd))] → va_S A s.heap H locs → ∀ ls : Array Slot, lv_has ls 3 [(0, .ref h0), (1, .int x1)] → W p l e (headSpec ws_M_eatName { frames := 0, cells := 0, slots := 0, locals := 0 }).room s m args below meth c H locs 0 0 Q (F0 m 5 ls []) := by
    intro n5
    induction n5 with
    | zero =>
      intro mt tk rd x1 hF
      exact (jv_no hF).elim
    | succ n5 ih5 =>
      have bl94 : ∀ (mt : Int32) (tk : Int32) (rd : Nat → Int32) (x1 : Int32), fb_M_eatName_94 pg (fl_M_eatName_5 pg  n5) mt tk rd x1 = some out → ∀ (H : Heap) (locs : List Loc), va_P (dC, dI) vwCl [(h0, .inr (6, [.int bg, .ref h1, .ref h2, .ref h3, .ref h4, .ref h5, .ref h6, .ref h7, .int ln, .ref h8, .int mt, .int en, .int sx, .int pl, .int ov, .int tk, .ref h9])), (h1, .inl (cC, 6, .inl na)), (h2, .inl (cI, 2, .inl cu)), (h3, .inl (cI, 48, .inl pa)), (h4, .inl (cI, 48, .inl re)), (h5, .inl (cZ, 48, .inl cl)), (h6, .inl (cI, 48, .inl si)), (h7, .inl (cC, 288, .inl lt)), (h8, .inl (cC, 3000, .inl pg)), (h9, .inl (cC, 6, .inl rd))] H → va_D A [(h0, .inr (6, [.int bg, .ref h1, .ref h2, .ref h3, .ref h4, .ref h5, .ref h6, .ref h7, .int ln, .ref h8, .int mt, .int en, .int sx, .int pl, .int ov, .int tk, .ref h9])), (h1, .inl (cC, 6, .inl na)), (h2, .inl (cI, 2, .inl cu)), (h3, .inl (cI, 48, .inl pa)), (h4, .inl (cI, 48, .inl re)), (h5, .inl (cZ, 48, .inl cl)), (h6, .inl (cI, 48, .inl si)), (h7, .inl (cC, 288, .inl lt)), (h8, .inl (cC, 3000, .inl pg)), (h9, .inl (cC, 6, .inl rd))] → va_S A s.heap H locs → ∀ ls : Array Slot, lv_has ls 3 [(0, .ref h0), (1, .int x1)] → W p l e (headSpec ws_M_eatName { frames := 0, cells := 0, slots := 0, locals := 0 }).room s m args below meth c H locs 0 0 Q (F0 m 94 ls []) := by
        intro mt tk rd x1 hF H locs hP hD hS ls hl
        unfold fb_M_eatName_94 at hF
        refine lv_aload_n hx hb dd_M_eatName_94 rfl (lv_at hl 0 rfl) ?_
        refine va_get (D := (dC, dI)) (ci := 6) (v := .ref h9) (C := cn_M) (T := tt_M) (N := 17) hx hb ht in_M hown hK hP 0 rfl rfl 16 (by decide) (ht _ tw_3_57) (fun _ h9 => h9) rfl dd_M_eatName_95 ?_
        refine lv_aload_n hx hb dd_M_eatName_98 rfl (lv_at hl 0 rfl) ?_
        refine va_get (D := (dC, dI)) (ci := 6) (v := .int tk) (C := cn_M) (T := tt_M) (N := 17) hx hb ht in_M hown hK hP 0 rfl rfl 15 (by decide) (ht _ tw_3_56) (fun _ h9 => h9) rfl dd_M_eatName_99 ?_
        refine lv_aload_n hx hb dd_M_eatName_102 rfl (lv_at hl 0 rfl) ?_
        refine va_get (D := (dC, dI)) (ci := 6) (v := .ref h8) (C := cn_M) (T := tt_M) (N := 17) hx hb ht in_M hown hK hP 0 rfl rfl 9 (by decide) (ht _ tw_3_50) (fun _ h9 => h9) rfl dd_M_eatName_103 ?_
        refine lv_aload_n hx hb dd_M_eatName_106 rfl (lv_at hl 0 rfl) ?_
        refine va_get (D := (dC, dI)) (ci := 6) (v := .int mt) (C := cn_M) (T := tt_M) (N := 17) hx hb ht in_M hown hK hP 0 rfl rfl 10 (by decide) (ht _ tw_3_51) (fun _ h9 => h9) rfl dd_M_eatName_107 ?_
        obtain ⟨g_25, hF⟩ := jv_gi hF
        refine va_cald hx hb hK hP 8 2 rfl rfl (jv_in g_25) dd_M_eatName_110 ?_
        obtain ⟨g_26, hF⟩ := jv_gi hF
        refine va_cast hx hb hK hP hD hS 9 2 rfl rfl (jv_in g_26) dd_M_eatName_111 (fun H_27 locs_28 hP hD hS => ?_)
        have hP : va_P (dC, dI) vwCl [(h0, .inr (6, [.int bg, .ref h1, .ref h2, .ref h3, .ref h4, .ref h5, .ref h6, .ref h7, .int ln, .ref h8, .int mt, .int en, .int sx, .int pl, .int ov, .int tk, .ref h9])), (h1, .inl (cC, 6, .inl na)), (h2, .inl (cI, 2, .inl cu)), (h3, .inl (cI, 48, .inl pa)), (h4, .inl (cI, 48, .inl re)), (h5, .inl (cZ, 48, .inl cl)), (h6, .inl (cI, 48, .inl si)), (h7, .inl (cC, 288, .inl lt)), (h8, .inl (cC, 3000, .inl pg)), (h9, .inl (cC, 6, .inl (upd rd tk.toNatClampNeg (vp_nar .char (pg mt.toNatClampNeg)))))] H_27 := hP
        have hD : va_D A [(h0, .inr (6, [.int bg, .ref h1, .ref h2, .ref h3, .ref h4, .ref h5, .ref h6, .ref h7, .int ln, .ref h8, .int mt, .int en, .int sx, .int pl, .int ov, .int tk, .ref h9])), (h1, .inl (cC, 6, .inl na)), (h2, .inl (cI, 2, .inl cu)), (h3, .inl (cI, 48, .inl pa)), (h4, .inl (cI, 48, .inl re)), (h5, .inl (cZ, 48, .inl cl)), (h6, .inl (cI, 48, .inl si)), (h7, .inl (cC, 288, .inl lt)), (h8, .inl (cC, 3000, .inl pg)), (h9, .inl (cC, 6, .inl (upd rd tk.toNatClampNeg (vp_nar .char (pg mt.toNatClampNeg)))))] := hD
        refine lv_aload_n hx hb dd_M_eatName_112 rfl (lv_at hl 0 rfl) ?_
        refine lv_dup hx hb dd_M_eatName_113 rfl ?_
        refine va_get (D := (dC, dI)) (ci := 6) (v := .int tk) (C := cn_M) (T := tt_M) (N := 17) hx hb ht in_M hown hK hP 0 rfl rfl 15 (by decide) (ht _ tw_3_56) (fun _ h9 => h9) rfl dd_M_eatName_114 ?_
        refine lv_iconst (v := 1) hx hb dd_M_eatName_117 (by decide) ?_
        refine lv_iadd hx hb dd_M_eatName_118 ?_
        refine va_put (D := (dC, dI)) (ci := 6) (v := .int (tk + 1)) (ty := .int) (C := cn_M) (T := tt_M) (N := 17) hx hb ht in_M ty_M tyok_M nm_M hown hK hP hD hS 0 rfl rfl 15 (by decide) (ht _ tw_3_56) (fun _ h9 => h9) rfl (by decide +kernel) rfl rfl (Nat.le_of_ble_eq_true rfl) dd_M_eatName_119 (fun H_29 locs_30 hP hD hS => ?_)
        have hP : va_P (dC, dI) vwCl [(h0, .inr (6, [.int bg, .ref h1, .ref h2, .ref h3, .ref h4, .ref h5, .ref h6, .ref h7, .int ln, .ref h8, .int mt, .int en, .int sx, .int pl, .int ov, .int (tk + 1), .ref h9])), (h1, .inl (cC, 6, .inl na)), (h2, .inl (cI, 2, .inl cu)), (h3, .inl (cI, 48, .inl pa)), (h4, .inl (cI, 48, .inl re)), (h5, .inl (cZ, 48, .inl cl)), (h6, .inl (cI, 48, .inl si)), (h7, .inl (cC, 288, .inl lt)), (h8, .inl (cC, 3000, .inl pg)), (h9, .inl (cC, 6, .inl (upd rd tk.toNatClampNeg (vp_nar .char (pg mt.toNatClampNeg)))))] H_29 := hP
        have hD : va_D A [(h0, .inr (6, [.int bg, .ref h1, .ref h2, .ref h3, .ref h4, .ref h5, .ref h6, .ref h7, .int ln, .ref h8, .int mt, .int en, .int sx, .int pl, .int ov, .int (tk + 1), .ref h9])), (h1, .inl (cC, 6, .inl na)), (h2, .inl (cI, 2, .inl cu)), (h3, .inl (cI, 48, .inl pa)), (h4, .inl (cI, 48, .inl re)), (h5, .inl (cZ, 48, .inl cl)), (h6, .inl (cI, 48, .inl si)), (h7, .inl (cC, 288, .inl lt)), (h8, .inl (cC, 3000, .inl pg)), (h9, .inl (cC, 6, .inl (upd rd tk.toNatClampNeg (vp_nar .char (pg mt.toNatClampNeg)))))] := hD
        refine lv_aload_n hx hb dd_M_eatName_122 rfl (lv_at hl 0 rfl) ?_
        refine lv_dup hx hb dd_M_eatName_123 rfl ?_
        refine va_get (D := (dC, dI)) (ci := 6) (v := .int mt) (C := cn_M) (T := tt_M) (N := 17) hx hb ht in_M hown hK hP 0 rfl rfl 10 (by decide) (ht _ tw_3_51) (fun _ h9 => h9) rfl dd_M_eatName_124 ?_
        refine lv_iconst (v := 1) hx hb dd_M_eatName_127 (by decide) ?_
        refine lv_iadd hx hb dd_M_eatName_128 ?_
        refine va_put (D := (dC, dI)) (ci := 6) (v := .int (mt + 1)) (ty := .int) (C := cn_M) (T := tt_M) (N := 17) hx hb ht in_M ty_M tyok_M nm_M hown hK hP hD hS 0 rfl rfl 10 (by decide) (ht _ tw_3_51) (fun _ h9 => h9) rfl (by decide +kernel) rfl rfl (Nat.le_of_ble_eq_true rfl) dd_M_eatName_129 (fun H_31 locs_32 hP hD hS => ?_)
        have hP : va_P (dC, dI) vwCl [(h0, .inr (6, [.int bg, .ref h1, .ref h2, .ref h3, .ref h4, .ref h5, .ref h6, .ref h7, .int ln, .ref h8, .int (mt + 1), .int en, .int sx, .int pl, .int ov, .int (tk + 1), .ref h9])), (h1, .inl (cC, 6, .inl na)), (h2, .inl (cI, 2, .inl cu)), (h3, .inl (cI, 48, .inl pa)), (h4, .inl (cI, 48, .inl re)), (h5, .inl (cZ, 48, .inl cl)), (h6, .inl (cI, 48, .inl si)), (h7, .inl (cC, 288, .inl lt)), (h8, .inl (cC, 3000, .inl pg)), (h9, .inl (cC, 6, .inl (upd rd tk.toNatClampNeg (vp_nar .char (pg mt.toNatClampNeg)))))] H_31 := hP
        have hD : va_D A [(h0, .inr (6, [.int bg, .ref h1, .ref h2, .ref h3, .ref h4, .ref h5, .ref h6, .ref h7, .int ln, .ref h8, .int (mt + 1), .int en, .int sx, .int pl, .int ov, .int (tk + 1), .ref h9])), (h1, .inl (cC, 6, .inl na)), (h2, .inl (cI, 2, .inl cu)), (h3, .inl (cI, 48, .inl pa)), (h4, .inl (cI, 48, .inl re)), (h5, .inl (cZ, 48, .inl cl)), (h6, .inl (cI, 48, .inl si)), (h7, .inl (cC, 288, .inl lt)), (h8, .inl (cC, 3000, .inl pg)), (h9, .inl (cC, 6, .inl (upd rd tk.toNatClampNeg (vp_nar .char (pg mt.toNatClampNeg)))))] := hD
        refine lv_goto (tgt := 5) hx hb dd_M_eatName_132 (by decide) ?_
        exact ih5 (mt + 1) (tk + 1) (upd rd tk.toNatClampNeg (vp_nar .char (pg mt.toNatClampNeg))) x1 hF H_31 locs_32 hP hD hS ls (lv_sub hl [0, 1] rfl)
      intro mt tk rd x1 hF H locs hP hD hS ls hl
      have hF : fb_M_eatName_5 pg  (fl_M_eatName_5 pg  n5) mt tk rd x1 = some out := hF
      unfold fb_M_eatName_5 at hF
      refine lv_aload_n hx hb dd_M_eatName_5 rfl (lv_at hl 0 rfl) ?_
      refine va_get (D := (dC, dI)) (ci := 6) (v := .int mt) (C := cn_M) (T := tt_M) (N := 17) hx hb ht in_M hown hK hP 0 rfl rfl 10 (by decide) (ht _ tw_3_51) (fun _ h9 => h9) rfl dd_M_eatName_6 ?_
      refine lv_iload_n hx hb dd_M_eatName_9 rfl (lv_at hl 1 rfl) ?_
      refine lv_icmp_ge (tgt := 135) hx hb dd_M_eatName_10 (by decide) (fun c_33 => ?_) (fun c_33 => ?_)
      · have hF := jv_t c_33 hF
        refine lv_aload_n hx hb dd_M_eatName_135 rfl (lv_at hl 0 rfl) ?_
        refine va_get (D := (dC, dI)) (ci := 6) (v := .int mt) (C := cn_M) (T := tt_M) (N := 17) hx hb ht in_M hown hK hP 0 rfl rfl 10 (by decide) (ht _ tw_3_51) (fun _ h9 => h9) rfl dd_M_eatName_136 ?_
        refine lv_iload_n hx hb dd_M_eatName_139 rfl (lv_at hl 1 rfl) ?_
        refine lv_icmp_ne (tgt := 147) hx hb dd_M_eatName_140 (by decide) (fun c_34 => ?_) (fun c_34 => ?_)
        · have hF := jv_f c_34 hF
          refine lv_iconst (v := 0) hx hb dd_M_eatName_147 (by decide) ?_
          subst hQ
          obtain rfl := Option.some.inj hF
          exact W.zret (v := 0) hx hb hr rfl (fun t ht hW => ⟨⟨0, (), rfl, rfl, by rw [ht]; exact hP, va_K.moved hW.alike hK, hD⟩, hS.F ht⟩) hS.2.2 dd_M_eatName_148
        · have hF := jv_t c_34 hF
          refine lv_iconst (v := 1) hx hb dd_M_eatName_143 (by decide) ?_
          refine lv_goto (tgt := 148) hx hb dd_M_eatName_144 (by decide) ?_
          subst hQ
          obtain rfl := Option.some.inj hF
          exact W.zret (v := 1) hx hb hr rfl (fun t ht hW => ⟨⟨1, (), rfl, rfl, by rw [ht]; exact hP, va_K.moved hW.alike hK, hD⟩, hS.F ht⟩) hS.2.2 dd_M_eatName_148
      · have hF := jv_f c_33 hF
        refine lv_aload_n hx hb dd_M_eatName_13 rfl (lv_at hl 0 rfl) ?_
        refine va_get (D := (dC, dI)) (ci := 6) (v := .int tk) (C := cn_M) (T := tt_M) (N := 17) hx hb ht in_M hown hK hP 0 rfl rfl 15 (by decide) (ht _ tw_3_56) (fun _ h9 => h9) rfl dd_M_eatName_14 ?_
        refine lv_bipush (v := 6) hx hb dd_M_eatName_17 (by decide) ?_
        refine lv_icmp_ge (tgt := 135) hx hb dd_M_eatName_19 (by decide) (fun c_35 => ?_) (fun c_35 => ?_)
        · have hF := jv_t c_35 hF
          refine lv_aload_n hx hb dd_M_eatName_135 rfl (lv_at hl 0 rfl) ?_
          refine va_get (D := (dC, dI)) (ci := 6) (v := .int mt) (C := cn_M) (T := tt_M) (N := 17) hx hb ht in_M hown hK hP 0 rfl rfl 10 (by decide) (ht _ tw_3_51) (fun _ h9 => h9) rfl dd_M_eatName_136 ?_
          refine lv_iload_n hx hb dd_M_eatName_139 rfl (lv_at hl 1 rfl) ?_
          refine lv_icmp_ne (tgt := 147) hx hb dd_M_eatName_140 (by decide) (fun c_36 => ?_) (fun c_36 => ?_)
          · have hF := jv_f c_36 hF
            refine lv_iconst (v := 0) hx hb dd_M_eatName_147 (by decide) ?_
            subst hQ
            obtain rfl := Option.some.inj hF
            exact W.zret (v := 0) hx hb hr rfl (fun t ht hW => ⟨⟨0, (), rfl, rfl, by rw [ht]; exact hP, va_K.moved hW.alike hK, hD⟩, hS.F ht⟩) hS.2.2 dd_M_eatName_148
          · have hF := jv_t c_36 hF
            refine lv_iconst (v := 1) hx hb dd_M_eatName_143 (by decide) ?_
            refine lv_goto (tgt := 148) hx hb dd_M_eatName_144 (by decide) ?_
            subst hQ
            obtain rfl := Option.some.inj hF
            exact W.zret (v := 1) hx hb hr rfl (fun t ht hW => ⟨⟨1, (), rfl, rfl, by rw [ht]; exact hP, va_K.moved hW.alike hK, hD⟩, hS.F ht⟩) hS.2.2 dd_M_eatName_148
        · have hF := jv_f c_35 hF
          refine lv_aload_n hx hb dd_M_eatName_22 rfl (lv_at hl 0 rfl) ?_
          refine va_get (D := (dC, dI)) (ci := 6) (v := .ref h8) (C := cn_M) (T := tt_M) (N := 17) hx hb ht in_M hown hK hP 0 rfl rfl 9 (by decide) (ht _ tw_3_50) (fun _ h9 => h9) rfl dd_M_eatName_23 ?_
          refine lv_aload_n hx hb dd_M_eatName_26 rfl (lv_at hl 0 rfl) ?_
          refine va_get (D := (dC, dI)) (ci := 6) (v := .int mt) (C := cn_M) (T := tt_M) (N := 17) hx hb ht in_M hown hK hP 0 rfl rfl 10 (by decide) (ht _ tw_3_51) (fun _ h9 => h9) rfl dd_M_eatName_27 ?_
          obtain ⟨g_37, hF⟩ := jv_gi hF
          refine va_cald hx hb hK hP 8 2 rfl rfl (jv_in g_37) dd_M_eatName_30 ?_
          refine lv_istore_n (lv' := [(2, .int (pg mt.toNatClampNeg)), (0, .ref h0), (1, .int x1)]) hx hb dd_M_eatName_31 rfl hl (by decide) rfl (fun ls hl => ?_)
          refine lv_iload_n hx hb dd_M_eatName_32 rfl (lv_at hl 0 rfl) ?_
          refine lv_bipush (v := 35) hx hb dd_M_eatName_33 (by decide) ?_
          refine lv_icmp_ne (tgt := 40) hx hb dd_M_eatName_35 (by decide) (fun c_38 => ?_) (fun c_38 => ?_)
          · have hF := jv_f c_38 hF
            refine lv_iload_n hx hb dd_M_eatName_40 rfl (lv_at hl 0 rfl) ?_
            refine lv_bipush (v := 92) hx hb dd_M_eatName_41 (by decide) ?_
            refine lv_icmp_ne (tgt := 94) hx hb dd_M_eatName_43 (by decide) (fun c_39 => ?_) (fun c_39 => ?_)
            · have hF := jv_f c_39 hF
              exact bl94 mt tk rd x1 hF H locs hP hD hS ls (lv_sub hl [1, 2] rfl)
            · have hF := jv_t c_39 hF
              refine lv_aload_n hx hb dd_M_eatName_46 rfl (lv_at hl 1 rfl) ?_
              refine lv_dup hx hb dd_M_eatName_47 rfl ?_
              refine va_get (D := (dC, dI)) (ci := 6) (v := .int mt) (C := cn_M) (T := tt_M) (N := 17) hx hb ht in_M hown hK hP 0 rfl rfl 10 (by decide) (ht _ tw_3_51) (fun _ h9 => h9) rfl dd_M_eatName_48 ?_
              refine lv_iconst (v := 1) hx hb dd_M_eatName_51 (by decide) ?_
              refine lv_iadd hx hb dd_M_eatName_52 ?_
              refine va_put (D := (dC, dI)) (ci := 6) (v := .int (mt + 1)) (ty := .int) (C := cn_M) (T := tt_M) (N := 17) hx hb ht in_M ty_M tyok_M nm_M hown hK hP hD hS 0 rfl rfl 10 (by decide) (ht _ tw_3_51) (fun _ h9 => h9) rfl (by decide +kernel) rfl rfl (Nat.le_of_ble_eq_true rfl) dd_M_eatName_53 (fun H_40 locs_41 hP hD hS => ?_)
              have hP : va_P (dC, dI) vwCl [(h0, .inr (6, [.int bg, .ref h1, .ref h2, .ref h3, .ref h4, .ref h5, .ref h6, .ref h7, .int ln, .ref h8, .int (mt + 1), .int en, .int sx, .int pl, .int ov, .int tk, .ref h9])), (h1, .inl (cC, 6, .inl na)), (h2, .inl (cI, 2, .inl cu)), (h3, .inl (cI, 48, .inl pa)), (h4, .inl (cI, 48, .inl re)), (h5, .inl (cZ, 48, .inl cl)), (h6, .inl (cI, 48, .inl si)), (h7, .inl (cC, 288, .inl lt)), (h8, .inl (cC, 3000, .inl pg)), (h9, .inl (cC, 6, .inl rd))] H_40 := hP
              have hD : va_D A [(h0, .inr (6, [.int bg, .ref h1, .ref h2, .ref h3, .ref h4, .ref h5, .ref h6, .ref h7, .int ln, .ref h8, .int (mt + 1), .int en, .int sx, .int pl, .int ov, .int tk, .ref h9])), (h1, .inl (cC, 6, .inl na)), (h2, .inl (cI, 2, .inl cu)), (h3, .inl (cI, 48, .inl pa)), (h4, .inl (cI, 48, .inl re)), (h5, .inl (cZ, 48, .inl cl)), (h6, .inl (cI, 48, .inl si)), (h7, .inl (cC, 288, .inl lt)), (h8, .inl (cC, 3000, .inl pg)), (h9, .inl (cC, 6, .inl rd))] := hD
              refine lv_aload_n hx hb dd_M_eatName_56 rfl (lv_at hl 1 rfl) ?_
              refine va_get (D := (dC, dI)) (ci := 6) (v := .int (mt + 1)) (C := cn_M) (T := tt_M) (N := 17) hx hb ht in_M hown hK hP 0 rfl rfl 10 (by decide) (ht _ tw_3_51) (fun _ h9 => h9) rfl dd_M_eatName_57 ?_
              refine lv_iload_n hx hb dd_M_eatName_60 rfl (lv_at hl 2 rfl) ?_
              refine lv_icmp_ge (tgt := 92) hx hb dd_M_eatName_61 (by decide) (fun c_42 => ?_) (fun c_42 => ?_)
              · have hF := jv_t c_42 hF
                refine lv_iconst (v := 0) hx hb dd_M_eatName_92 (by decide) ?_
                subst hQ
                obtain rfl := Option.some.inj hF
                exact W.zret (v := 0) hx hb hr rfl (fun t ht hW => ⟨⟨0, (), rfl, rfl, by rw [ht]; exact hP, va_K.moved hW.alike hK, hD⟩, hS.F ht⟩) hS.2.2 dd_M_eatName_93
              · have hF := jv_f c_42 hF
                refine lv_aload_n hx hb dd_M_eatName_64 rfl (lv_at hl 1 rfl) ?_
                refine va_get (D := (dC, dI)) (ci := 6) (v := .ref h8) (C := cn_M) (T := tt_M) (N := 17) hx hb ht in_M hown hK hP 0 rfl rfl 9 (by decide) (ht _ tw_3_50) (fun _ h9 => h9) rfl dd_M_eatName_65 ?_
                refine lv_aload_n hx hb dd_M_eatName_68 rfl (lv_at hl 1 rfl) ?_
                refine va_get (D := (dC, dI)) (ci := 6) (v := .int (mt + 1)) (C := cn_M) (T := tt_M) (N := 17) hx hb ht in_M hown hK hP 0 rfl rfl 10 (by decide) (ht _ tw_3_51) (fun _ h9 => h9) rfl dd_M_eatName_69 ?_
                obtain ⟨g_43, hF⟩ := jv_gi hF
                refine va_cald hx hb hK hP 8 2 rfl rfl (jv_in g_43) dd_M_eatName_72 ?_
                refine lv_bipush (v := 92) hx hb dd_M_eatName_73 (by decide) ?_
                refine lv_icmp_eq (tgt := 94) hx hb dd_M_eatName_75 (by decide) (fun c_44 => ?_) (fun c_44 => ?_)
                · have hF := jv_t c_44 hF
                  exact bl94 (mt + 1) tk rd x1 hF H_40 locs_41 hP hD hS ls (lv_sub hl [1, 2] rfl)
                · have hF := jv_f c_44 hF
                  refine lv_aload_n hx hb dd_M_eatName_78 rfl (lv_at hl 1 rfl) ?_
                  refine va_get (D := (dC, dI)) (ci := 6) (v := .ref h8) (C := cn_M) (T := tt_M) (N := 17) hx hb ht in_M hown hK hP 0 rfl rfl 9 (by decide) (ht _ tw_3_50) (fun _ h9 => h9) rfl dd_M_eatName_79 ?_
                  refine lv_aload_n hx hb dd_M_eatName_82 rfl (lv_at hl 1 rfl) ?_
                  refine va_get (D := (dC, dI)) (ci := 6) (v := .int (mt + 1)) (C := cn_M) (T := tt_M) (N := 17) hx hb ht in_M hown hK hP 0 rfl rfl 10 (by decide) (ht _ tw_3_51) (fun _ h9 => h9) rfl dd_M_eatName_83 ?_
                  obtain ⟨g_45, hF⟩ := jv_gi hF
                  refine va_cald hx hb hK hP 8 2 rfl rfl (jv_in g_45) dd_M_eatName_86 ?_
                  refine lv_bipush (v := 35) hx hb dd_M_eatName_87 (by decide) ?_
                  refine lv_icmp_eq (tgt := 94) hx hb dd_M_eatName_89 (by decide) (fun c_46 => ?_) (fun c_46 => ?_)
                  · have hF := jv_t c_46 hF
                    exact bl94 (mt + 1) tk rd x1 hF H_40 locs_41 hP hD hS ls (lv_sub hl [1, 2] rfl)
                  · have hF := jv_f c_46 hF
                    refine lv_iconst (v := 0) hx hb dd_M_eatName_92 (by decide) ?_
                    subst hQ
                    obtain rfl := Option.some.inj hF
                    exact W.zret (v := 0) hx hb hr rfl (fun t ht hW => ⟨⟨0, (), rfl, rfl, by rw [ht]; exact hP, va_K.moved hW.alike hK, hD⟩, hS.F ht⟩) hS.2.2 dd_M_eatName_93
          · have hF := jv_t c_38 hF
            refine lv_iconst (v := 0) hx hb dd_M_eatName_38 (by decide) ?_
            subst hQ
            obtain rfl := Option.some.inj hF
            exact W.zret (v := 0) hx hb hr rfl (fun t ht hW => ⟨⟨0, (), rfl, rfl, by rw [ht]; exact hP, va_K.moved hW.alike hK, hD⟩, hS.F ht⟩) hS.2.2 dd_M_eatName_39
  unfold fn_M_eatName at hF
  refine lv_aload_n hx hb dd_M_eatName_0 rfl (lv_at hl 0 rfl) ?_
  refine lv_iconst (v := 0) hx hb dd_M_eatName_1 (by decide) ?_
  refine va_put (D := (dC, dI)) (ci := 6) (v := .int 0) (ty := .int) (C := cn_M) (T := tt_M) (N := 17) hx hb ht in_M ty_M tyok_M nm_M hown hK hP hD hS 0 rfl rfl 15 (by decide) (ht _ tw_3_56) (fun _ h9 => h9) rfl (by decide +kernel) rfl rfl (Nat.le_of_ble_eq_true rfl) dd_M_eatName_2 (fun H_47 locs_48 hP hD hS => ?_)
  have hP : va_P (dC, dI) vwCl [(h0, .inr (6, [.int bg, .ref h1, .ref h2, .ref h3, .ref h4, .ref h5, .ref h6, .ref h7, .int ln, .ref h8, .int mt, .int en, .int sx, .int pl, .int ov, .int 0, .ref h9])), (h1, .inl (cC, 6, .inl na)), (h2, .inl (cI, 2, .inl cu)), (h3, .inl (cI, 48, .inl pa)), (h4, .inl (cI, 48, .inl re)), (h5, .inl (cZ, 48, .inl cl)), (h6, .inl (cI, 48, .inl si)), (h7, .inl (cC, 288, .inl lt)), (h8, .inl (cC, 3000, .inl pg)), (h9, .inl (cC, 6, .inl rd))] H_47 := hP
  have hD : va_D A [(h0, .inr (6, [.int bg, .ref h1, .ref h2, .ref h3, .ref h4, .ref h5, .ref h6, .ref h7, .int ln, .ref h8, .int mt, .int en, .int sx, .int pl, .int ov, .int 0, .ref h9])), (h1, .inl (cC, 6, .inl na)), (h2, .inl (cI, 2, .inl cu)), (h3, .inl (cI, 48, .inl pa)), (h4, .inl (cI, 48, .inl re)), (h5, .inl (cZ, 48, .inl cl)), (h6, .inl (cI, 48, .inl si)), (h7, .inl (cC, 288, .inl lt)), (h8, .inl (cC, 3000, .inl pg)), (h9, .inl (cC, 6, .inl rd))] := hD
  exact lp5 4000 mt 0 rd x1 hF H_47 locs_48 hP hD hS ls (lv_sub hl [0, 1] rfl)
set_option maxHeartbeats 40000000 in
set_option maxRecDepth 100000 in
theorem c_M_accept (l : Launch) (dC : Nat → ClassId) (dI : Nat → Nat → Nat) (cI cL cC cZ : ClassId) (h0 h1 h2 h3 h4 h5 h6 h7 h8 h9 : Nat) (sz : Nat) (bg : Int32) (ln : Int32) (mt : Int32) (en : Int32) (sx : Int32) (pl : Int32) (ov : Int32) (tk : Int32) (na : Nat → Int32) (cu : Nat → Int32) (pa : Nat → Int32) (re : Nat → Int32) (cl : Nat → Int32) (si : Nat → Int32) (lt : Nat → Int32) (pg : Nat → Int32) (rd : Nat → Int32) (x1 : Int32) (out : Int32 × Int32 × (Nat → Int32) × (Nat → Int32) × (Nat → Int32) × (Nat → Int32) × (Nat → Int32) × (Nat → Int32)) (hF : fn_M_accept tk rd sx cu pa re cl si lt x1 = some out) : Met l yy_M_accept ws_M_accept { frames := 2, cells := 0, slots := 0, locals := 47 } (mP_ (dC, dI) (tk_ cI cL cC cZ) [(h0, .inr (6, [.int bg, .ref h1, .ref h2, .ref h3, .ref h4, .ref h5, .ref h6, .ref h7, .int ln, .ref h8, .int mt, .int en, .int sx, .int pl, .int ov, .int tk, .ref h9])), (h1, .inl (cC, 6, .inl na)), (h2, .inl (cI, 2, .inl cu)), (h3, .inl (cI, 48, .inl pa)), (h4, .inl (cI, 48, .inl re)), (h5, .inl (cZ, 48, .inl cl)), (h6, .inl (cI, 48, .inl si)), (h7, .inl (cC, 288, .inl lt)), (h8, .inl (cC, 3000, .inl pg)), (h9, .inl (cC, 6, .inl rd))] sz [.ref h0, .int x1]) (va_Qi (fun r (_ : Unit) => r = out.1) (mB_ (dC, dI) (tk_ cI cL cC cZ) [(h0, .inr (6, [.int bg, .ref h1, .ref h2, .ref h3, .ref h4, .ref h5, .ref h6, .ref h7, .int ln, .ref h8, .int mt, .int en, .int out.2.1, .int pl, .int ov, .int tk, .ref h9])), (h1, .inl (cC, 6, .inl na)), (h2, .inl (cI, 2, .inl out.2.2.1)), (h3, .inl (cI, 48, .inl out.2.2.2.1)), (h4, .inl (cI, 48, .inl out.2.2.2.2.1)), (h5, .inl (cZ, 48, .inl out.2.2.2.2.2.1)), (h6, .inl (cI, 48, .inl out.2.2.2.2.2.2.1)), (h7, .inl (cC, 288, .inl out.2.2.2.2.2.2.2)), (h8, .inl (cC, 3000, .inl pg)), (h9, .inl (cC, 6, .inl rd))] (va_A [(h0, .inr (6, [.int bg, .ref h1, .ref h2, .ref h3, .ref h4, .ref h5, .ref h6, .ref h7, .int ln, .ref h8, .int mt, .int en, .int sx, .int pl, .int ov, .int tk, .ref h9])), (h1, .inl (cC, 6, .inl na)), (h2, .inl (cI, 2, .inl cu)), (h3, .inl (cI, 48, .inl pa)), (h4, .inl (cI, 48, .inl re)), (h5, .inl (cZ, 48, .inl cl)), (h6, .inl (cI, 48, .inl si)), (h7, .inl (cC, 288, .inl lt)), (h8, .inl (cC, 3000, .inl pg)), (h9, .inl (cC, 6, .inl rd))] sz)) (va_A [(h0, .inr (6, [.int bg, .ref h1, .ref h2, .ref h3, .ref h4, .ref h5, .ref h6, .ref h7, .int ln, .ref h8, .int mt, .int en, .int sx, .int pl, .int ov, .int tk, .ref h9])), (h1, .inl (cC, 6, .inl na)), (h2, .inl (cI, 2, .inl cu)), (h3, .inl (cI, 48, .inl pa)), (h4, .inl (cI, 48, .inl re)), (h5, .inl (cZ, 48, .inl cl)), (h6, .inl (cI, 48, .inl si)), (h7, .inl (cC, 288, .inl lt)), (h8, .inl (cC, 3000, .inl pg)), (h9, .inl (cC, 6, .inl rd))] sz)) 0 0 (va_A [(h0, .inr (6, [.int bg, .ref h1, .ref h2, .ref h3, .ref h4, .ref h5, .ref h6, .ref h7, .int ln, .ref h8, .int mt, .int en, .int sx, .int pl, .int ov, .int tk, .ref h9])), (h1, .inl (cC, 6, .inl na)), (h2, .inl (cI, 2, .inl cu)), (h3, .inl (cI, 48, .inl pa)), (h4, .inl (cI, 48, .inl re)), (h5, .inl (cZ, 48, .inl cl)), (h6, .inl (cI, 48, .inl si)), (h7, .inl (cC, 288, .inl lt)), (h8, .inl (cC, 3000, .inl pg)), (h9, .inl (cC, 6, .inl rd))] sz) := by
  refine Met.ofW (cc := cc_M_accept) (maxL := 4) (ret := (some .boolean)) (by decide) rfl ?_
  intro p e s m args below meth c s₁ B hml hv
  obtain ⟨hargs, hsz, hP, hK, hD0⟩ := hv
  have hx := B.exec
  have hb := B.bytes
  have hr := B.returns
  have hts := atoms_spec (ws := ws_M_accept) B.pre
  have ht : ∀ w ∈ TB_, w.before args s = true := fun w h => hts w (List.mem_cons_of_mem _ h)
  have hown : s.vm.findClass cn_M = some m.cls := findClass_of_methodNamed B.named
  have hlocks := B.notSynchronized
  subst hsz
  have hD := hD0.self (sz := s.heap.size)
  generalize hAe : va_A [(h0, .inr (6, [.int bg, .ref h1, .ref h2, .ref h3, .ref h4, .ref h5, .ref h6, .ref h7, .int ln, .ref h8, .int mt, .int en, .int sx, .int pl, .int ov, .int tk, .ref h9])), (h1, .inl (cC, 6, .inl na)), (h2, .inl (cI, 2, .inl cu)), (h3, .inl (cI, 48, .inl pa)), (h4, .inl (cI, 48, .inl re)), (h5, .inl (cZ, 48, .inl cl)), (h6, .inl (cI, 48, .inl si)), (h7, .inl (cC, 288, .inl lt)), (h8, .inl (cC, 3000, .inl pg)), (h9, .inl (cC, 6, .inl rd))] s.heap.size = A at hD ⊢
  have hA : ∀ q : Nat, s.heap.size ≤ q → A q := fun q h => by rw [← hAe]; exact Or.inr h
  have hS : va_S A s.heap s.heap [] := va_S.rf
  have hP : va_P (dC, dI) vwCl [(h0, .inr (6, [.int bg, .ref h1, .ref h2, .ref h3, .ref h4, .ref h5, .ref h6, .ref h7, .int ln, .ref h8, .int mt, .int en, .int sx, .int pl, .int ov, .int tk, .ref h9])), (h1, .inl (cC, 6, .inl na)), (h2, .inl (cI, 2, .inl cu)), (h3, .inl (cI, 48, .inl pa)), (h4, .inl (cI, 48, .inl re)), (h5, .inl (cZ, 48, .inl cl)), (h6, .inl (cI, 48, .inl si)), (h7, .inl (cC, 288, .inl lt)), (h8, .inl (cC, 3000, .inl pg)), (h9, .inl (cC, 6, .inl rd))] s.heap := hP
  have hl := lv_entry [.ref h0, .int x1] (n := 4) (Nat.le_of_ble_eq_true rfl)
  have he : entryFrame m args 4 = _ := (congrArg (fun a => entryFrame m a 4) hargs).trans (lg_entry_eq m [.ref h0, .int x1] 4)
  rw [he]
  generalize (lg_sl [.ref h0, .int x1] ++ List.replicate (4 - (lg_sl [.ref h0, .int x1]).length) Slot.unset).toArray = ls at hl ⊢
  have hl : lv_has ls 4 [(0, .ref h0), (1, .int x1)] := hl
  generalize hQ : MQ below _ args s _ _ _ = Q
  have lp35 : ∀ (n35 : Nat), ∀ (sx : Int32) (cu : Nat → Int32) (pa : Nat → Int32) (re : Nat → Int32) (cl : Nat → Int32) (si : Nat → Int32) (lt : Nat → Int32) (x1 : Int32) (x2 : Int32) (x3 : Int32), fl_M_accept_35 tk rd  n35 (sx, cu, pa, re, cl, si, lt, x1, x2, x3) = some out → ∀ (H : Heap) (locs : List Loc), va_P (dC, dI) vwCl [(h0, .inr (6, [.int bg, .ref h1, .ref h2, .ref h3, .ref h4, .ref h5, .ref h6, .ref h7, .int ln, .ref h8, .int mt, .int en, .int sx, .int pl, .int ov, .int tk, .ref h9])), (h1, .inl (cC, 6, .inl na)), (h2, .inl (cI, 2, .inl cu)), (h3, .inl (cI, 48, .inl pa)), (h4, .inl (cI, 48, .inl re)), (h5, .inl (cZ, 48, .inl cl)), (h6, .inl (cI, 48, .inl si)), (h7, .inl (cC, 288, .inl lt)), (h8, .inl (cC, 3000, .inl pg)), (h9, .inl (cC, 6, .inl rd))] H → va_D A [(h0, .inr (6, [.int bg, .ref h1, .ref h2, .ref h3, .ref h4, .ref h5, .ref h6, .ref h7, .int ln, .ref h8, .int mt, .int en, .int sx, .int pl, .int ov, .int tk, .ref h9])), (h1, .inl (cC, 6, .inl na)), (h2, .inl (cI, 2, .inl cu)), (h3, .inl (cI, 48, .inl pa)), (h4, .inl (cI, 48, .inl re)), (h5, .inl (cZ, 48, .inl cl)), (h6, .inl (cI, 48, .inl si)), (h7, .inl (cC, 288, .inl lt)), (h8, .inl (cC, 3000, .inl pg)), (h9, .inl (cC, 6, .inl rd))] → va_S A s.heap H locs → ∀ ls : Array Slot, lv_has ls 4 [(0, .ref h0), (1, .int x1), (2, .int x2), (3, .int x3)] → W p l e (headSpec ws_M_accept { frames := 2, cells := 0, slots := 0, locals := 47 }).room s m args below meth c H locs 0 0 Q (F0 m 35 ls []) := by
    intro n35
    induction n35 with
    | zero =>
      intro sx cu pa re cl si lt x1 x2 x3 hF
      exact (jv_no hF).elim
    | succ n35 ih35 =>
      intro sx cu pa re cl si lt x1 x2 x3 hF H locs hP hD hS ls hl
      have hF : fb_M_accept_35 tk rd  (fl_M_accept_35 tk rd  n35) sx cu pa re cl si lt x1 x2 x3 = some out := hF
      unfold fb_M_accept_35 at hF
      refine lv_iload_n hx hb dd_M_accept_35 rfl (lv_at hl 3 rfl) ?_
      refine lv_aload_n hx hb dd_M_accept_36 rfl (lv_at hl 0 rfl) ?_
      refine va_get (D := (dC, dI)) (ci := 6) (v := .int tk) (C := cn_M) (T := tt_M) (N := 17) hx hb ht in_M hown hK hP 0 rfl rfl 15 (by decide) (ht _ tw_3_56) (fun _ h9 => h9) rfl dd_M_accept_37 ?_
      refine lv_icmp_ge (tgt := 69) hx hb dd_M_accept_40 (by decide) (fun c_18 => ?_) (fun c_18 => ?_)
      · have hF := jv_t c_18 hF
        refine lv_aload_n hx hb dd_M_accept_69 rfl (lv_at hl 0 rfl) ?_
        refine lv_iload_n hx hb dd_M_accept_70 rfl (lv_at hl 1 rfl) ?_
        refine lv_iconst (v := 4) hx hb dd_M_accept_71 (by decide) ?_
        refine lv_icmp_ne (tgt := 79) hx hb dd_M_accept_72 (by decide) (fun c_19 => ?_) (fun c_19 => ?_)
        · have hF := jv_f c_19 hF
          refine lv_aload_n hx hb dd_M_accept_79 rfl (lv_at hl 0 rfl) ?_
          refine va_get (D := (dC, dI)) (ci := 6) (v := .int sx) (C := cn_M) (T := tt_M) (N := 17) hx hb ht in_M hown hK hP 0 rfl rfl 12 (by decide) (ht _ tw_3_53) (fun _ h9 => h9) rfl dd_M_accept_80 ?_
          refine va_put (D := (dC, dI)) (ci := 6) (v := .int sx) (ty := .int) (C := cn_M) (T := tt_M) (N := 17) hx hb ht in_M ty_M tyok_M nm_M hown hK hP hD hS 0 rfl rfl 12 (by decide) (ht _ tw_3_53) (fun _ h9 => h9) rfl (by decide +kernel) rfl rfl (Nat.le_of_ble_eq_true rfl) dd_M_accept_83 (fun H_20 locs_21 hP hD hS => ?_)
          have hP : va_P (dC, dI) vwCl [(h0, .inr (6, [.int bg, .ref h1, .ref h2, .ref h3, .ref h4, .ref h5, .ref h6, .ref h7, .int ln, .ref h8, .int mt, .int en, .int sx, .int pl, .int ov, .int tk, .ref h9])), (h1, .inl (cC, 6, .inl na)), (h2, .inl (cI, 2, .inl cu)), (h3, .inl (cI, 48, .inl pa)), (h4, .inl (cI, 48, .inl re)), (h5, .inl (cZ, 48, .inl cl)), (h6, .inl (cI, 48, .inl si)), (h7, .inl (cC, 288, .inl lt)), (h8, .inl (cC, 3000, .inl pg)), (h9, .inl (cC, 6, .inl rd))] H_20 := hP
          have hD : va_D A [(h0, .inr (6, [.int bg, .ref h1, .ref h2, .ref h3, .ref h4, .ref h5, .ref h6, .ref h7, .int ln, .ref h8, .int mt, .int en, .int sx, .int pl, .int ov, .int tk, .ref h9])), (h1, .inl (cC, 6, .inl na)), (h2, .inl (cI, 2, .inl cu)), (h3, .inl (cI, 48, .inl pa)), (h4, .inl (cI, 48, .inl re)), (h5, .inl (cZ, 48, .inl cl)), (h6, .inl (cI, 48, .inl si)), (h7, .inl (cC, 288, .inl lt)), (h8, .inl (cC, 3000, .inl pg)), (h9, .inl (cC, 6, .inl rd))] := hD
          refine lv_iconst (v := 1) hx hb dd_M_accept_86 (by decide) ?_
          subst hQ
          obtain rfl := Option.some.inj hF
          exact W.zret (v := 1) hx hb hr rfl (fun t ht hW => ⟨⟨1, (), rfl, rfl, by rw [ht]; exact hP, va_K.moved hW.alike hK, hD⟩, hS.F ht⟩) hS.2.2 dd_M_accept_87
        · have hF := jv_t c_19 hF
          refine lv_iload_n hx hb dd_M_accept_75 rfl (lv_at hl 2 rfl) ?_
          refine lv_goto (tgt := 83) hx hb dd_M_accept_76 (by decide) ?_
          refine va_put (D := (dC, dI)) (ci := 6) (v := .int x2) (ty := .int) (C := cn_M) (T := tt_M) (N := 17) hx hb ht in_M ty_M tyok_M nm_M hown hK hP hD hS 0 rfl rfl 12 (by decide) (ht _ tw_3_53) (fun _ h9 => h9) rfl (by decide +kernel) rfl rfl (Nat.le_of_ble_eq_true rfl) dd_M_accept_83 (fun H_22 locs_23 hP hD hS => ?_)
          have hP : va_P (dC, dI) vwCl [(h0, .inr (6, [.int bg, .ref h1, .ref h2, .ref h3, .ref h4, .ref h5, .ref h6, .ref h7, .int ln, .ref h8, .int mt, .int en, .int x2, .int pl, .int ov, .int tk, .ref h9])), (h1, .inl (cC, 6, .inl na)), (h2, .inl (cI, 2, .inl cu)), (h3, .inl (cI, 48, .inl pa)), (h4, .inl (cI, 48, .inl re)), (h5, .inl (cZ, 48, .inl cl)), (h6, .inl (cI, 48, .inl si)), (h7, .inl (cC, 288, .inl lt)), (h8, .inl (cC, 3000, .inl pg)), (h9, .inl (cC, 6, .inl rd))] H_22 := hP
          have hD : va_D A [(h0, .inr (6, [.int bg, .ref h1, .ref h2, .ref h3, .ref h4, .ref h5, .ref h6, .ref h7, .int ln, .ref h8, .int mt, .int en, .int x2, .int pl, .int ov, .int tk, .ref h9])), (h1, .inl (cC, 6, .inl na)), (h2, .inl (cI, 2, .inl cu)), (h3, .inl (cI, 48, .inl pa)), (h4, .inl (cI, 48, .inl re)), (h5, .inl (cZ, 48, .inl cl)), (h6, .inl (cI, 48, .inl si)), (h7, .inl (cC, 288, .inl lt)), (h8, .inl (cC, 3000, .inl pg)), (h9, .inl (cC, 6, .inl rd))] := hD
          refine lv_iconst (v := 1) hx hb dd_M_accept_86 (by decide) ?_
          subst hQ
          obtain rfl := Option.some.inj hF
          exact W.zret (v := 1) hx hb hr rfl (fun t ht hW => ⟨⟨1, (), rfl, rfl, by rw [ht]; exact hP, va_K.moved hW.alike hK, hD⟩, hS.F ht⟩) hS.2.2 dd_M_accept_87
      · have hF := jv_f c_18 hF
        refine lv_aload_n hx hb dd_M_accept_43 rfl (lv_at hl 0 rfl) ?_
        refine va_get (D := (dC, dI)) (ci := 6) (v := .ref h7) (C := cn_M) (T := tt_M) (N := 17) hx hb ht in_M hown hK hP 0 rfl rfl 7 (by decide) (ht _ tw_3_48) (fun _ h9 => h9) rfl dd_M_accept_44 ?_
        refine lv_bipush (v := 6) hx hb dd_M_accept_47 (by decide) ?_
        refine lv_bipush (v := 24) hx hb dd_M_accept_49 (by decide) ?_
        refine lv_iload_n hx hb dd_M_accept_51 rfl (lv_at hl 2 rfl) ?_
        refine lv_iadd hx hb dd_M_accept_52 ?_
        refine lv_imul hx hb dd_M_accept_53 ?_
        refine lv_iload_n hx hb dd_M_accept_54 rfl (lv_at hl 3 rfl) ?_
        refine lv_iadd hx hb dd_M_accept_55 ?_
        refine lv_aload_n hx hb dd_M_accept_56 rfl (lv_at hl 0 rfl) ?_
        refine va_get (D := (dC, dI)) (ci := 6) (v := .ref h9) (C := cn_M) (T := tt_M) (N := 17) hx hb ht in_M hown hK hP 0 rfl rfl 16 (by decide) (ht _ tw_3_57) (fun _ h9 => h9) rfl dd_M_accept_57 ?_
        refine lv_iload_n hx hb dd_M_accept_60 rfl (lv_at hl 3 rfl) ?_
        obtain ⟨g_24, hF⟩ := jv_gi hF
        refine va_cald hx hb hK hP 9 2 rfl rfl (jv_in g_24) dd_M_accept_61 ?_
        obtain ⟨g_25, hF⟩ := jv_gi hF
        refine va_cast hx hb hK hP hD hS 7 2 rfl rfl (jv_in g_25) dd_M_accept_62 (fun H_26 locs_27 hP hD hS => ?_)
        have hP : va_P (dC, dI) vwCl [(h0, .inr (6, [.int bg, .ref h1, .ref h2, .ref h3, .ref h4, .ref h5, .ref h6, .ref h7, .int ln, .ref h8, .int mt, .int en, .int sx, .int pl, .int ov, .int tk, .ref h9])), (h1, .inl (cC, 6, .inl na)), (h2, .inl (cI, 2, .inl cu)), (h3, .inl (cI, 48, .inl pa)), (h4, .inl (cI, 48, .inl re)), (h5, .inl (cZ, 48, .inl cl)), (h6, .inl (cI, 48, .inl si)), (h7, .inl (cC, 288, .inl (upd lt ((6 * (24 + x2)) + x3).toNatClampNeg (vp_nar .char (rd x3.toNatClampNeg))))), (h8, .inl (cC, 3000, .inl pg)), (h9, .inl (cC, 6, .inl rd))] H_26 := hP
        have hD : va_D A [(h0, .inr (6, [.int bg, .ref h1, .ref h2, .ref h3, .ref h4, .ref h5, .ref h6, .ref h7, .int ln, .ref h8, .int mt, .int en, .int sx, .int pl, .int ov, .int tk, .ref h9])), (h1, .inl (cC, 6, .inl na)), (h2, .inl (cI, 2, .inl cu)), (h3, .inl (cI, 48, .inl pa)), (h4, .inl (cI, 48, .inl re)), (h5, .inl (cZ, 48, .inl cl)), (h6, .inl (cI, 48, .inl si)), (h7, .inl (cC, 288, .inl (upd lt ((6 * (24 + x2)) + x3).toNatClampNeg (vp_nar .char (rd x3.toNatClampNeg))))), (h8, .inl (cC, 3000, .inl pg)), (h9, .inl (cC, 6, .inl rd))] := hD
        refine lv_iinc (v := x3 + 1) (lv' := [(3, .int (x3 + 1)), (0, .ref h0), (1, .int x1), (2, .int x2)]) hx hb dd_M_accept_63 hl (k := 3) rfl rfl (by decide) rfl (fun ls hl => ?_)
        refine lv_goto (tgt := 35) hx hb dd_M_accept_66 (by decide) ?_
        exact ih35 sx cu pa re cl si (upd lt ((6 * (24 + x2)) + x3).toNatClampNeg (vp_nar .char (rd x3.toNatClampNeg))) x1 x2 (x3 + 1) hF H_26 locs_27 hP hD hS ls (lv_sub hl [1, 2, 3, 0] rfl)
  unfold fn_M_accept at hF
  refine lv_aload_n hx hb dd_M_accept_0 rfl (lv_at hl 0 rfl) ?_
  refine va_get (D := (dC, dI)) (ci := 6) (v := .ref h2) (C := cn_M) (T := tt_M) (N := 17) hx hb ht in_M hown hK hP 0 rfl rfl 2 (by decide) (ht _ tw_3_43) (fun _ h9 => h9) rfl dd_M_accept_1 ?_
  refine lv_iconst (v := 1) hx hb dd_M_accept_4 (by decide) ?_
  obtain ⟨g_28, hF⟩ := jv_gi hF
  refine va_iald hx hb hK hP 2 0 rfl rfl (jv_in g_28) dd_M_accept_5 ?_
  refine lv_bipush (v := 24) hx hb dd_M_accept_6 (by decide) ?_
  refine lv_icmp_ne (tgt := 13) hx hb dd_M_accept_8 (by decide) (fun c_29 => ?_) (fun c_29 => ?_)
  · have hF := jv_f c_29 hF
    refine lv_aload_n hx hb dd_M_accept_13 rfl (lv_at hl 0 rfl) ?_
    refine lv_iconst (v := 1) hx hb dd_M_accept_14 (by decide) ?_
    refine lv_iload_n hx hb dd_M_accept_15 rfl (lv_at hl 1 rfl) ?_
    obtain ⟨o_16, ho_16, hF⟩ := jv_bi hF
    refine jv_mi (wr := []) (w1 := [(h0, .inr (6, [.int bg, .ref h1, .ref h2, .ref h3, .ref h4, .ref h5, .ref h6, .ref h7, .int ln, .ref h8, .int mt, .int en, .int sx, .int pl, .int ov, .int tk, .ref h9])), (h1, .inl (cC, 6, .inl na)), (h2, .inl (cI, 2, .inl o_16.2.1)), (h3, .inl (cI, 48, .inl o_16.2.2.1)), (h4, .inl (cI, 48, .inl o_16.2.2.2.1)), (h5, .inl (cZ, 48, .inl o_16.2.2.2.2.1)), (h6, .inl (cI, 48, .inl o_16.2.2.2.2.2)), (h7, .inl (cC, 288, .inl lt)), (h8, .inl (cC, 3000, .inl pg)), (h9, .inl (cC, 6, .inl rd))]) (va_runV (C := cn_M) (As := [.int 1, .int x1]) (rest := []) ⟨hx, hb, hml, hown, ht⟩ (c_M_grow l dC dI cI cL cC cZ h0 h1 h2 h3 h4 h5 h6 h7 h8 h9 s.heap.size bg ln mt en sx pl ov tk na cu pa re cl si lt pg rd 1 x1 _ ho_16) (cwV 2 ht (gi_V tw_3_114 tw_3_116 tw_p_17 tw_1_4 tw_3_117) rfl rfl rfl (by decide +kernel) ⟨Nat.le_of_ble_eq_true rfl, Nat.le_of_ble_eq_true rfl⟩) (jv_pv hK hP hD [0, 1, 2, 3, 4, 5, 6, 7, 8, 9] rfl (by decide) rfl (va_recv hK hP (ci := 6) (q0 := 0) rfl rfl)) rfl rfl hl.1 rfl (lv_room (Nat.le_of_ble_eq_true rfl)) dd_M_accept_16 ⟨Nat.le_of_ble_eq_true rfl, Nat.le_of_ble_eq_true rfl⟩) hP hD hS hA [0, 1, 2, 3, 4, 5, 6, 7, 8, 9] [] rfl rfl (by decide) (by decide) (fun H_30 locs_31 hP hD hS => ?_)
    have hP : va_P (dC, dI) vwCl [(h0, .inr (6, [.int bg, .ref h1, .ref h2, .ref h3, .ref h4, .ref h5, .ref h6, .ref h7, .int ln, .ref h8, .int mt, .int en, .int sx, .int pl, .int ov, .int tk, .ref h9])), (h1, .inl (cC, 6, .inl na)), (h2, .inl (cI, 2, .inl o_16.2.1)), (h3, .inl (cI, 48, .inl o_16.2.2.1)), (h4, .inl (cI, 48, .inl o_16.2.2.2.1)), (h5, .inl (cZ, 48, .inl o_16.2.2.2.2.1)), (h6, .inl (cI, 48, .inl o_16.2.2.2.2.2)), (h7, .inl (cC, 288, .inl lt)), (h8, .inl (cC, 3000, .inl pg)), (h9, .inl (cC, 6, .inl rd))] H_30 := hP.sub [0, 1, 2, 3, 4, 5, 6, 7, 8, 9] rfl
    have hD : va_D A [(h0, .inr (6, [.int bg, .ref h1, .ref h2, .ref h3, .ref h4, .ref h5, .ref h6, .ref h7, .int ln, .ref h8, .int mt, .int en, .int sx, .int pl, .int ov, .int tk, .ref h9])), (h1, .inl (cC, 6, .inl na)), (h2, .inl (cI, 2, .inl o_16.2.1)), (h3, .inl (cI, 48, .inl o_16.2.2.1)), (h4, .inl (cI, 48, .inl o_16.2.2.2.1)), (h5, .inl (cZ, 48, .inl o_16.2.2.2.2.1)), (h6, .inl (cI, 48, .inl o_16.2.2.2.2.2)), (h7, .inl (cC, 288, .inl lt)), (h8, .inl (cC, 3000, .inl pg)), (h9, .inl (cC, 6, .inl rd))] := hD.sub [0, 1, 2, 3, 4, 5, 6, 7, 8, 9] (by decide) rfl
    refine lv_istore_n (lv' := [(2, .int o_16.1), (0, .ref h0), (1, .int x1)]) hx hb dd_M_accept_19 rfl hl (by decide) rfl (fun ls hl => ?_)
    refine lv_aload_n hx hb dd_M_accept_20 rfl (lv_at hl 1 rfl) ?_
    refine va_get (D := (dC, dI)) (ci := 6) (v := .ref h6) (C := cn_M) (T := tt_M) (N := 17) hx hb ht in_M hown hK hP 0 rfl rfl 6 (by decide) (ht _ tw_3_47) (fun _ h9 => h9) rfl dd_M_accept_21 ?_
    refine lv_bipush (v := 24) hx hb dd_M_accept_24 (by decide) ?_
    refine lv_iload_n hx hb dd_M_accept_26 rfl (lv_at hl 0 rfl) ?_
    refine lv_iadd hx hb dd_M_accept_27 ?_
    refine lv_aload_n hx hb dd_M_accept_28 rfl (lv_at hl 1 rfl) ?_
    refine va_get (D := (dC, dI)) (ci := 6) (v := .int tk) (C := cn_M) (T := tt_M) (N := 17) hx hb ht in_M hown hK hP 0 rfl rfl 15 (by decide) (ht _ tw_3_56) (fun _ h9 => h9) rfl dd_M_accept_29 ?_
    obtain ⟨g_32, hF⟩ := jv_gi hF
    refine va_iast hx hb hK hP hD hS 6 0 rfl rfl (jv_in g_32) dd_M_accept_32 (fun H_33 locs_34 hP hD hS => ?_)
    have hP : va_P (dC, dI) vwCl [(h0, .inr (6, [.int bg, .ref h1, .ref h2, .ref h3, .ref h4, .ref h5, .ref h6, .ref h7, .int ln, .ref h8, .int mt, .int en, .int sx, .int pl, .int ov, .int tk, .ref h9])), (h1, .inl (cC, 6, .inl na)), (h2, .inl (cI, 2, .inl o_16.2.1)), (h3, .inl (cI, 48, .inl o_16.2.2.1)), (h4, .inl (cI, 48, .inl o_16.2.2.2.1)), (h5, .inl (cZ, 48, .inl o_16.2.2.2.2.1)), (h6, .inl (cI, 48, .inl (upd o_16.2.2.2.2.2 (24 + o_16.1).toNatClampNeg tk))), (h7, .inl (cC, 288, .inl lt)), (h8, .inl (cC, 3000, .inl pg)), (h9, .inl (cC, 6, .inl rd))] H_33 := hP
    have hD : va_D A [(h0, .inr (6, [.int bg, .ref h1, .ref h2, .ref h3, .ref h4, .ref h5, .ref h6, .ref h7, .int ln, .ref h8, .int mt, .int en, .int sx, .int pl, .int ov, .int tk, .ref h9])), (h1, .inl (cC, 6, .inl na)), (h2, .inl (cI, 2, .inl o_16.2.1)), (h3, .inl (cI, 48, .inl o_16.2.2.1)), (h4, .inl (cI, 48, .inl o_16.2.2.2.1)), (h5, .inl (cZ, 48, .inl o_16.2.2.2.2.1)), (h6, .inl (cI, 48, .inl (upd o_16.2.2.2.2.2 (24 + o_16.1).toNatClampNeg tk))), (h7, .inl (cC, 288, .inl lt)), (h8, .inl (cC, 3000, .inl pg)), (h9, .inl (cC, 6, .inl rd))] := hD
    refine lv_iconst (v := 0) hx hb dd_M_accept_33 (by decide) ?_
    refine lv_istore_n (lv' := [(3, .int 0), (2, .int o_16.1), (0, .ref h0), (1, .int x1)]) hx hb dd_M_accept_34 rfl hl (by decide) rfl (fun ls hl => ?_)
    exact lp35 4000 sx o_16.2.1 o_16.2.2.1 o_16.2.2.2.1 o_16.2.2.2.2.1 (upd o_16.2.2.2.2.2 (24 + o_16.1).toNatClampNeg tk) lt x1 o_16.1 0 hF H_33 locs_34 hP hD hS ls (lv_sub hl [2, 3, 1, 0] rfl)
  · have hF := jv_t c_29 hF
    refine lv_iconst (v := 0) hx hb dd_M_accept_11 (by decide) ?_
    subst hQ
    obtain rfl := Option.some.inj hF
    exact W.zret (v := 0) hx hb hr rfl (fun t ht hW => ⟨⟨0, (), rfl, rfl, by rw [ht]; exact hP, va_K.moved hW.alike hK, hD⟩, hS.F ht⟩) hS.2.2 dd_M_accept_12
set_option maxHeartbeats 40000000 in
set_option maxRecDepth 100000 in
theorem c_M_isName (l : Launch) (dC : Nat → ClassId) (dI : Nat → Nat → Nat) (cI cL cC cZ : ClassId) (h0 h1 h2 h3 h4 h5 h6 h7 h8 h9 : Nat) (sz : Nat) (bg : Int32) (ln : Int32) (mt : Int32) (en : Int32) (sx : Int32) (pl : Int32) (ov : Int32) (tk : Int32) (na : Nat → Int32) (cu : Nat → Int32) (pa : Nat → Int32) (re : Nat → Int32) (cl : Nat → Int32) (si : Nat → Int32) (lt : Nat → Int32) (pg : Nat → Int32) (rd : Nat → Int32) (x1 : Int32) (out : Int32) (hF : fn_M_isName tk si lt rd x1 = some out) : Met l yy_M_isName ws_M_isName { frames := 0, cells := 0, slots := 0, locals := 0 } (mP_ (dC, dI) (tk_ cI cL cC cZ) [(h0, .inr (6, [.int bg, .ref h1, .ref h2, .ref h3, .ref h4, .ref h5, .ref h6, .ref h7, .int ln, .ref h8, .int mt, .int en, .int sx, .int pl, .int ov, .int tk, .ref h9])), (h1, .inl (cC, 6, .inl na)), (h2, .inl (cI, 2, .inl cu)), (h3, .inl (cI, 48, .inl pa)), (h4, .inl (cI, 48, .inl re)), (h5, .inl (cZ, 48, .inl cl)), (h6, .inl (cI, 48, .inl si)), (h7, .inl (cC, 288, .inl lt)), (h8, .inl (cC, 3000, .inl pg)), (h9, .inl (cC, 6, .inl rd))] sz [.ref h0, .int x1]) (vp_Si (fun r => r = out)) 0 0 (fun _ => False) := by
  refine Met.ofW (cc := cc_M_isName) (maxL := 4) (ret := (some .boolean)) (by decide) rfl ?_
  intro p e s m args below meth c s₁ B hml hv
  obtain ⟨hargs, hsz, hP, hK, hD0⟩ := hv
  have hx := B.exec
  have hb := B.bytes
  have hr := B.returns
  have hts := atoms_spec (ws := ws_M_isName) B.pre
  have ht : ∀ w ∈ TB_, w.before args s = true := fun w h => hts w (List.mem_cons_of_mem _ h)
  have hown : s.vm.findClass cn_M = some m.cls := findClass_of_methodNamed B.named
  have hlocks := B.notSynchronized
  subst hsz
  have hD := hD0.self (sz := s.heap.size)
  generalize hAe : va_A [(h0, .inr (6, [.int bg, .ref h1, .ref h2, .ref h3, .ref h4, .ref h5, .ref h6, .ref h7, .int ln, .ref h8, .int mt, .int en, .int sx, .int pl, .int ov, .int tk, .ref h9])), (h1, .inl (cC, 6, .inl na)), (h2, .inl (cI, 2, .inl cu)), (h3, .inl (cI, 48, .inl pa)), (h4, .inl (cI, 48, .inl re)), (h5, .inl (cZ, 48, .inl cl)), (h6, .inl (cI, 48, .inl si)), (h7, .inl (cC, 288, .inl lt)), (h8, .inl (cC, 3000, .inl pg)), (h9, .inl (cC, 6, .inl rd))] s.heap.size = A at hD
  have hA : ∀ q : Nat, s.heap.size ≤ q → A q := fun q h => by rw [← hAe]; exact Or.inr h
  have hS : va_S A s.heap s.heap [] := va_S.rf
  have hP : va_P (dC, dI) vwCl [(h0, .inr (6, [.int bg, .ref h1, .ref h2, .ref h3, .ref h4, .ref h5, .ref h6, .ref h7, .int ln, .ref h8, .int mt, .int en, .int sx, .int pl, .int ov, .int tk, .ref h9])), (h1, .inl (cC, 6, .inl na)), (h2, .inl (cI, 2, .inl cu)), (h3, .inl (cI, 48, .inl pa)), (h4, .inl (cI, 48, .inl re)), (h5, .inl (cZ, 48, .inl cl)), (h6, .inl (cI, 48, .inl si)), (h7, .inl (cC, 288, .inl lt)), (h8, .inl (cC, 3000, .inl pg)), (h9, .inl (cC, 6, .inl rd))] s.heap := hP
  have hl := lv_entry [.ref h0, .int x1] (n := 4) (Nat.le_of_ble_eq_true rfl)
  have he : entryFrame m args 4 = _ := (congrArg (fun a => entryFrame m a 4) hargs).trans (lg_entry_eq m [.ref h0, .int x1] 4)
  rw [he]
  generalize (lg_sl [.ref h0, .int x1] ++ List.replicate (4 - (lg_sl [.ref h0, .int x1]).length) Slot.unset).toArray = ls at hl ⊢
  have hl : lv_has ls 4 [(0, .ref h0), (1, .int x1)] := hl
  generalize hQ : MQ below _ args s _ _ _ = Q
  have lp24 : ∀ (n24 : Nat), ∀ (x1 : Int32) (x2 : Int32) (x3 : Int32), fl_M_isName_24 tk si lt rd  n24 (x1, x2, x3) = some out → ∀ ls : Array Slot, lv_has ls 4 [(0, .ref h0), (1, .int x1), (2, .int x2), (3, .int x3)] → W p l e (headSpec ws_M_isName { frames := 0, cells := 0, slots := 0, locals := 0 }).room s m args below meth c s.heap [] 0 0 Q (F0 m 24 ls []) := by
    intro n24
    induction n24 with
    | zero =>
      intro x1 x2 x3 hF
      exact (jv_no hF).elim
    | succ n24 ih24 =>
      intro x1 x2 x3 hF ls hl
      have hF : fb_M_isName_24 tk si lt rd  (fl_M_isName_24 tk si lt rd  n24) x1 x2 x3 = some out := hF
      unfold fb_M_isName_24 at hF
      refine lv_iload_n hx hb dd_M_isName_24 rfl (lv_at hl 3 rfl) ?_
      refine lv_aload_n hx hb dd_M_isName_25 rfl (lv_at hl 0 rfl) ?_
      refine va_get (D := (dC, dI)) (ci := 6) (v := .int tk) (C := cn_M) (T := tt_M) (N := 17) hx hb ht in_M hown hK hP 0 rfl rfl 15 (by decide) (ht _ tw_3_56) (fun _ h9 => h9) rfl dd_M_isName_26 ?_
      refine lv_icmp_ge (tgt := 71) hx hb dd_M_isName_29 (by decide) (fun c_8 => ?_) (fun c_8 => ?_)
      · have hF := jv_t c_8 hF
        refine lv_iload_n hx hb dd_M_isName_71 rfl (lv_at hl 2 rfl) ?_
        obtain ⟨z_9, hF⟩ := jv_gi hF
        subst hQ
        exact W.zret (v := x2) hx hb hr (jv_zn z_9).1 (fun t ht hW => ⟨x2, rfl, (Option.some.inj hF), ht⟩) (fun _ h => by cases h) dd_M_isName_72
      · have hF := jv_f c_8 hF
        refine lv_iload_n hx hb dd_M_isName_32 rfl (lv_at hl 2 rfl) ?_
        refine lv_if_eq (tgt := 71) hx hb dd_M_isName_33 (by decide) (fun c_10 => ?_) (fun c_10 => ?_)
        · have hF := jv_t c_10 hF
          refine lv_iload_n hx hb dd_M_isName_71 rfl (lv_at hl 2 rfl) ?_
          obtain ⟨z_11, hF⟩ := jv_gi hF
          subst hQ
          exact W.zret (v := x2) hx hb hr (jv_zn z_11).1 (fun t ht hW => ⟨x2, rfl, (Option.some.inj hF), ht⟩) (fun _ h => by cases h) dd_M_isName_72
        · have hF := jv_f c_10 hF
          refine lv_aload_n hx hb dd_M_isName_36 rfl (lv_at hl 0 rfl) ?_
          refine va_get (D := (dC, dI)) (ci := 6) (v := .ref h7) (C := cn_M) (T := tt_M) (N := 17) hx hb ht in_M hown hK hP 0 rfl rfl 7 (by decide) (ht _ tw_3_48) (fun _ h9 => h9) rfl dd_M_isName_37 ?_
          refine lv_bipush (v := 6) hx hb dd_M_isName_40 (by decide) ?_
          refine lv_bipush (v := 24) hx hb dd_M_isName_42 (by decide) ?_
          refine lv_iload_n hx hb dd_M_isName_44 rfl (lv_at hl 1 rfl) ?_
          refine lv_iadd hx hb dd_M_isName_45 ?_
          refine lv_imul hx hb dd_M_isName_46 ?_
          refine lv_iload_n hx hb dd_M_isName_47 rfl (lv_at hl 3 rfl) ?_
          refine lv_iadd hx hb dd_M_isName_48 ?_
          obtain ⟨g_12, hF⟩ := jv_gi hF
          refine va_cald hx hb hK hP 7 2 rfl rfl (jv_in g_12) dd_M_isName_49 ?_
          refine lv_aload_n hx hb dd_M_isName_50 rfl (lv_at hl 0 rfl) ?_
          refine va_get (D := (dC, dI)) (ci := 6) (v := .ref h9) (C := cn_M) (T := tt_M) (N := 17) hx hb ht in_M hown hK hP 0 rfl rfl 16 (by decide) (ht _ tw_3_57) (fun _ h9 => h9) rfl dd_M_isName_51 ?_
          refine lv_iload_n hx hb dd_M_isName_54 rfl (lv_at hl 3 rfl) ?_
          obtain ⟨g_13, hF⟩ := jv_gi hF
          refine va_cald hx hb hK hP 9 2 rfl rfl (jv_in g_13) dd_M_isName_55 ?_
          refine lv_icmp_ne (tgt := 63) hx hb dd_M_isName_56 (by decide) (fun c_14 => ?_) (fun c_14 => ?_)
          · have hF := jv_f c_14 hF
            refine lv_iconst (v := 0) hx hb dd_M_isName_63 (by decide) ?_
            refine lv_istore_n (lv' := [(2, .int 0), (0, .ref h0), (1, .int x1), (3, .int x3)]) hx hb dd_M_isName_64 rfl hl (by decide) rfl (fun ls hl => ?_)
            refine lv_iinc (v := x3 + 1) (lv' := [(3, .int (x3 + 1)), (2, .int 0), (0, .ref h0), (1, .int x1)]) hx hb dd_M_isName_65 hl (k := 3) rfl rfl (by decide) rfl (fun ls hl => ?_)
            refine lv_goto (tgt := 24) hx hb dd_M_isName_68 (by decide) ?_
            exact ih24 x1 0 (x3 + 1) hF ls (lv_sub hl [2, 3, 1, 0] rfl)
          · have hF := jv_t c_14 hF
            refine lv_iconst (v := 1) hx hb dd_M_isName_59 (by decide) ?_
            refine lv_goto (tgt := 64) hx hb dd_M_isName_60 (by decide) ?_
            refine lv_istore_n (lv' := [(2, .int 1), (0, .ref h0), (1, .int x1), (3, .int x3)]) hx hb dd_M_isName_64 rfl hl (by decide) rfl (fun ls hl => ?_)
            refine lv_iinc (v := x3 + 1) (lv' := [(3, .int (x3 + 1)), (2, .int 1), (0, .ref h0), (1, .int x1)]) hx hb dd_M_isName_65 hl (k := 3) rfl rfl (by decide) rfl (fun ls hl => ?_)
            refine lv_goto (tgt := 24) hx hb dd_M_isName_68 (by decide) ?_
            exact ih24 x1 1 (x3 + 1) hF ls (lv_sub hl [2, 3, 1, 0] rfl)
  unfold fn_M_isName at hF
  refine lv_aload_n hx hb dd_M_isName_0 rfl (lv_at hl 0 rfl) ?_
  refine va_get (D := (dC, dI)) (ci := 6) (v := .ref h6) (C := cn_M) (T := tt_M) (N := 17) hx hb ht in_M hown hK hP 0 rfl rfl 6 (by decide) (ht _ tw_3_47) (fun _ h9 => h9) rfl dd_M_isName_1 ?_
  refine lv_bipush (v := 24) hx hb dd_M_isName_4 (by decide) ?_
  refine lv_iload_n hx hb dd_M_isName_6 rfl (lv_at hl 1 rfl) ?_
  refine lv_iadd hx hb dd_M_isName_7 ?_
  obtain ⟨g_15, hF⟩ := jv_gi hF
  refine va_iald hx hb hK hP 6 0 rfl rfl (jv_in g_15) dd_M_isName_8 ?_
  refine lv_aload_n hx hb dd_M_isName_9 rfl (lv_at hl 0 rfl) ?_
  refine va_get (D := (dC, dI)) (ci := 6) (v := .int tk) (C := cn_M) (T := tt_M) (N := 17) hx hb ht in_M hown hK hP 0 rfl rfl 15 (by decide) (ht _ tw_3_56) (fun _ h9 => h9) rfl dd_M_isName_10 ?_
  refine lv_icmp_ne (tgt := 20) hx hb dd_M_isName_13 (by decide) (fun c_16 => ?_) (fun c_16 => ?_)
  · have hF := jv_f c_16 hF
    refine lv_iconst (v := 0) hx hb dd_M_isName_20 (by decide) ?_
    refine lv_istore_n (lv' := [(2, .int 0), (0, .ref h0), (1, .int x1)]) hx hb dd_M_isName_21 rfl hl (by decide) rfl (fun ls hl => ?_)
    refine lv_iconst (v := 0) hx hb dd_M_isName_22 (by decide) ?_
    refine lv_istore_n (lv' := [(3, .int 0), (2, .int 0), (0, .ref h0), (1, .int x1)]) hx hb dd_M_isName_23 rfl hl (by decide) rfl (fun ls hl => ?_)
    exact lp24 4000 x1 0 0 hF ls (lv_sub hl [2, 3, 1, 0] rfl)
  · have hF := jv_t c_16 hF
    refine lv_iconst (v := 1) hx hb dd_M_isName_16 (by decide) ?_
    refine lv_goto (tgt := 21) hx hb dd_M_isName_17 (by decide) ?_
    refine lv_istore_n (lv' := [(2, .int 1), (0, .ref h0), (1, .int x1)]) hx hb dd_M_isName_21 rfl hl (by decide) rfl (fun ls hl => ?_)
    refine lv_iconst (v := 0) hx hb dd_M_isName_22 (by decide) ?_
    refine lv_istore_n (lv' := [(3, .int 0), (2, .int 1), (0, .ref h0), (1, .int x1)]) hx hb dd_M_isName_23 rfl hl (by decide) rfl (fun ls hl => ?_)
    exact lp24 4000 x1 1 0 hF ls (lv_sub hl [2, 3, 1, 0] rfl)
set_option maxHeartbeats 40000000 in
set_option maxRecDepth 100000 in
theorem c_M_closing (l : Launch) (dC : Nat → ClassId) (dI : Nat → Nat → Nat) (cI cL cC cZ : ClassId) (h0 h1 h2 h3 h4 h5 h6 h7 h8 h9 : Nat) (sz : Nat) (bg : Int32) (ln : Int32) (mt : Int32) (en : Int32) (sx : Int32) (pl : Int32) (ov : Int32) (tk : Int32) (na : Nat → Int32) (cu : Nat → Int32) (pa : Nat → Int32) (re : Nat → Int32) (cl : Nat → Int32) (si : Nat → Int32) (lt : Nat → Int32) (pg : Nat → Int32) (rd : Nat → Int32)  (out : Int32 × Int32 × Int32 × Int32 × Int32 × (Nat → Int32) × (Nat → Int32)) (hF : fn_M_closing en cu pa re si lt pg mt sx pl tk cl rd = some out) : Met l yy_M_closing ws_M_closing { frames := 3, cells := 0, slots := 0, locals := 67 } (mP_ (dC, dI) (tk_ cI cL cC cZ) [(h0, .inr (6, [.int bg, .ref h1, .ref h2, .ref h3, .ref h4, .ref h5, .ref h6, .ref h7, .int ln, .ref h8, .int mt, .int en, .int sx, .int pl, .int ov, .int tk, .ref h9])), (h1, .inl (cC, 6, .inl na)), (h2, .inl (cI, 2, .inl cu)), (h3, .inl (cI, 48, .inl pa)), (h4, .inl (cI, 48, .inl re)), (h5, .inl (cZ, 48, .inl cl)), (h6, .inl (cI, 48, .inl si)), (h7, .inl (cC, 288, .inl lt)), (h8, .inl (cC, 3000, .inl pg)), (h9, .inl (cC, 6, .inl rd))] sz [.ref h0]) (va_Qi (fun r (_ : Unit) => r = out.1) (mB_ (dC, dI) (tk_ cI cL cC cZ) [(h0, .inr (6, [.int bg, .ref h1, .ref h2, .ref h3, .ref h4, .ref h5, .ref h6, .ref h7, .int ln, .ref h8, .int out.2.1, .int en, .int out.2.2.1, .int out.2.2.2.1, .int ov, .int out.2.2.2.2.1, .ref h9])), (h1, .inl (cC, 6, .inl na)), (h2, .inl (cI, 2, .inl cu)), (h3, .inl (cI, 48, .inl pa)), (h4, .inl (cI, 48, .inl re)), (h5, .inl (cZ, 48, .inl out.2.2.2.2.2.1)), (h6, .inl (cI, 48, .inl si)), (h7, .inl (cC, 288, .inl lt)), (h8, .inl (cC, 3000, .inl pg)), (h9, .inl (cC, 6, .inl out.2.2.2.2.2.2))] (va_A [(h0, .inr (6, [.int bg, .ref h1, .ref h2, .ref h3, .ref h4, .ref h5, .ref h6, .ref h7, .int ln, .ref h8, .int mt, .int en, .int sx, .int pl, .int ov, .int tk, .ref h9])), (h1, .inl (cC, 6, .inl na)), (h2, .inl (cI, 2, .inl cu)), (h3, .inl (cI, 48, .inl pa)), (h4, .inl (cI, 48, .inl re)), (h5, .inl (cZ, 48, .inl cl)), (h6, .inl (cI, 48, .inl si)), (h7, .inl (cC, 288, .inl lt)), (h8, .inl (cC, 3000, .inl pg)), (h9, .inl (cC, 6, .inl rd))] sz)) (va_A [(h0, .inr (6, [.int bg, .ref h1, .ref h2, .ref h3, .ref h4, .ref h5, .ref h6, .ref h7, .int ln, .ref h8, .int mt, .int en, .int sx, .int pl, .int ov, .int tk, .ref h9])), (h1, .inl (cC, 6, .inl na)), (h2, .inl (cI, 2, .inl cu)), (h3, .inl (cI, 48, .inl pa)), (h4, .inl (cI, 48, .inl re)), (h5, .inl (cZ, 48, .inl cl)), (h6, .inl (cI, 48, .inl si)), (h7, .inl (cC, 288, .inl lt)), (h8, .inl (cC, 3000, .inl pg)), (h9, .inl (cC, 6, .inl rd))] sz)) 0 0 (va_A [(h0, .inr (6, [.int bg, .ref h1, .ref h2, .ref h3, .ref h4, .ref h5, .ref h6, .ref h7, .int ln, .ref h8, .int mt, .int en, .int sx, .int pl, .int ov, .int tk, .ref h9])), (h1, .inl (cC, 6, .inl na)), (h2, .inl (cI, 2, .inl cu)), (h3, .inl (cI, 48, .inl pa)), (h4, .inl (cI, 48, .inl re)), (h5, .inl (cZ, 48, .inl cl)), (h6, .inl (cI, 48, .inl si)), (h7, .inl (cC, 288, .inl lt)), (h8, .inl (cC, 3000, .inl pg)), (h9, .inl (cC, 6, .inl rd))] sz) := by
  refine Met.ofW (cc := cc_M_closing) (maxL := 3) (ret := (some .boolean)) (by decide) rfl ?_
  intro p e s m args below meth c s₁ B hml hv
  obtain ⟨hargs, hsz, hP, hK, hD0⟩ := hv
  have hx := B.exec
  have hb := B.bytes
  have hr := B.returns
  have hts := atoms_spec (ws := ws_M_closing) B.pre
  have ht : ∀ w ∈ TB_, w.before args s = true := fun w h => hts w (List.mem_cons_of_mem _ h)
  have hown : s.vm.findClass cn_M = some m.cls := findClass_of_methodNamed B.named
  have hlocks := B.notSynchronized
  subst hsz
  have hD := hD0.self (sz := s.heap.size)
  generalize hAe : va_A [(h0, .inr (6, [.int bg, .ref h1, .ref h2, .ref h3, .ref h4, .ref h5, .ref h6, .ref h7, .int ln, .ref h8, .int mt, .int en, .int sx, .int pl, .int ov, .int tk, .ref h9])), (h1, .inl (cC, 6, .inl na)), (h2, .inl (cI, 2, .inl cu)), (h3, .inl (cI, 48, .inl pa)), (h4, .inl (cI, 48, .inl re)), (h5, .inl (cZ, 48, .inl cl)), (h6, .inl (cI, 48, .inl si)), (h7, .inl (cC, 288, .inl lt)), (h8, .inl (cC, 3000, .inl pg)), (h9, .inl (cC, 6, .inl rd))] s.heap.size = A at hD ⊢
  have hA : ∀ q : Nat, s.heap.size ≤ q → A q := fun q h => by rw [← hAe]; exact Or.inr h
  have hS : va_S A s.heap s.heap [] := va_S.rf
  have hP : va_P (dC, dI) vwCl [(h0, .inr (6, [.int bg, .ref h1, .ref h2, .ref h3, .ref h4, .ref h5, .ref h6, .ref h7, .int ln, .ref h8, .int mt, .int en, .int sx, .int pl, .int ov, .int tk, .ref h9])), (h1, .inl (cC, 6, .inl na)), (h2, .inl (cI, 2, .inl cu)), (h3, .inl (cI, 48, .inl pa)), (h4, .inl (cI, 48, .inl re)), (h5, .inl (cZ, 48, .inl cl)), (h6, .inl (cI, 48, .inl si)), (h7, .inl (cC, 288, .inl lt)), (h8, .inl (cC, 3000, .inl pg)), (h9, .inl (cC, 6, .inl rd))] s.heap := hP
  have hl := lv_entry [.ref h0] (n := 3) (Nat.le_of_ble_eq_true rfl)
  have he : entryFrame m args 3 = _ := (congrArg (fun a => entryFrame m a 3) hargs).trans (lg_entry_eq m [.ref h0] 3)
  rw [he]
  generalize (lg_sl [.ref h0] ++ List.replicate (3 - (lg_sl [.ref h0]).length) Slot.unset).toArray = ls at hl ⊢
  have hl : lv_has ls 3 [(0, .ref h0)] := hl
  generalize hQ : MQ below _ args s _ _ _ = Q
  have bl93 : ∀ (mt : Int32) (sx : Int32) (pl : Int32) (tk : Int32) (cl : Nat → Int32) (rd : Nat → Int32) (y0 : Int32), fb_M_closing_93 en cu pa re si lt pg  mt sx pl tk cl rd y0 = some out → ∀ (H : Heap) (locs : List Loc), va_P (dC, dI) vwCl [(h0, .inr (6, [.int bg, .ref h1, .ref h2, .ref h3, .ref h4, .ref h5, .ref h6, .ref h7, .int ln, .ref h8, .int mt, .int en, .int sx, .int pl, .int ov, .int tk, .ref h9])), (h1, .inl (cC, 6, .inl na)), (h2, .inl (cI, 2, .inl cu)), (h3, .inl (cI, 48, .inl pa)), (h4, .inl (cI, 48, .inl re)), (h5, .inl (cZ, 48, .inl cl)), (h6, .inl (cI, 48, .inl si)), (h7, .inl (cC, 288, .inl lt)), (h8, .inl (cC, 3000, .inl pg)), (h9, .inl (cC, 6, .inl rd))] H → va_D A [(h0, .inr (6, [.int bg, .ref h1, .ref h2, .ref h3, .ref h4, .ref h5, .ref h6, .ref h7, .int ln, .ref h8, .int mt, .int en, .int sx, .int pl, .int ov, .int tk, .ref h9])), (h1, .inl (cC, 6, .inl na)), (h2, .inl (cI, 2, .inl cu)), (h3, .inl (cI, 48, .inl pa)), (h4, .inl (cI, 48, .inl re)), (h5, .inl (cZ, 48, .inl cl)), (h6, .inl (cI, 48, .inl si)), (h7, .inl (cC, 288, .inl lt)), (h8, .inl (cC, 3000, .inl pg)), (h9, .inl (cC, 6, .inl rd))] → va_S A s.heap H locs → ∀ ls : Array Slot, lv_has ls 3 [(0, .ref h0)] → W p l e (headSpec ws_M_closing { frames := 3, cells := 0, slots := 0, locals := 67 }).room s m args below meth c H locs 0 0 Q (F0 m 93 ls [.int y0]) := by
    intro mt sx pl tk cl rd y0 hF H locs hP hD hS ls hl
    unfold fb_M_closing_93 at hF
    refine lv_istore_n (lv' := [(2, .int y0), (0, .ref h0)]) hx hb dd_M_closing_93 rfl hl (by decide) rfl (fun ls hl => ?_)
    refine lv_iload_n hx hb dd_M_closing_94 rfl (lv_at hl 0 rfl) ?_
    refine lv_if_eq (tgt := 132) hx hb dd_M_closing_95 (by decide) (fun c_27 => ?_) (fun c_27 => ?_)
    · have hF := jv_t c_27 hF
      refine lv_iload_n hx hb dd_M_closing_132 rfl (lv_at hl 0 rfl) ?_
      obtain ⟨z_28, hF⟩ := jv_gi hF
      subst hQ
      obtain rfl := Option.some.inj hF
      exact W.zret (v := y0) hx hb hr (jv_zn z_28).1 (fun t ht hW => ⟨⟨y0, (), rfl, rfl, by rw [ht]; exact hP, va_K.moved hW.alike hK, hD⟩, hS.F ht⟩) hS.2.2 dd_M_closing_133
    · have hF := jv_f c_27 hF
      refine lv_aload_n hx hb dd_M_closing_98 rfl (lv_at hl 1 rfl) ?_
      refine va_get (D := (dC, dI)) (ci := 6) (v := .ref h5) (C := cn_M) (T := tt_M) (N := 17) hx hb ht in_M hown hK hP 0 rfl rfl 5 (by decide) (ht _ tw_3_46) (fun _ h9 => h9) rfl dd_M_closing_99 ?_
      refine lv_bipush (v := 24) hx hb dd_M_closing_102 (by decide) ?_
      refine lv_aload_n hx hb dd_M_closing_104 rfl (lv_at hl 1 rfl) ?_
      refine va_get (D := (dC, dI)) (ci := 6) (v := .int sx) (C := cn_M) (T := tt_M) (N := 17) hx hb ht in_M hown hK hP 0 rfl rfl 12 (by decide) (ht _ tw_3_53) (fun _ h9 => h9) rfl dd_M_closing_105 ?_
      refine lv_iadd hx hb dd_M_closing_108 ?_
      refine lv_iconst (v := 1) hx hb dd_M_closing_109 (by decide) ?_
      obtain ⟨g_29, hF⟩ := jv_gi hF
      refine va_zast hx hb hK hP hD hS 5 3 rfl rfl (jv_in g_29) dd_M_closing_110 (fun H_30 locs_31 hP hD hS => ?_)
      have hP : va_P (dC, dI) vwCl [(h0, .inr (6, [.int bg, .ref h1, .ref h2, .ref h3, .ref h4, .ref h5, .ref h6, .ref h7, .int ln, .ref h8, .int mt, .int en, .int sx, .int pl, .int ov, .int tk, .ref h9])), (h1, .inl (cC, 6, .inl na)), (h2, .inl (cI, 2, .inl cu)), (h3, .inl (cI, 48, .inl pa)), (h4, .inl (cI, 48, .inl re)), (h5, .inl (cZ, 48, .inl (upd cl (24 + sx).toNatClampNeg (vp_nar .boolean 1)))), (h6, .inl (cI, 48, .inl si)), (h7, .inl (cC, 288, .inl lt)), (h8, .inl (cC, 3000, .inl pg)), (h9, .inl (cC, 6, .inl rd))] H_30 := hP
      have hD : va_D A [(h0, .inr (6, [.int bg, .ref h1, .ref h2, .ref h3, .ref h4, .ref h5, .ref h6, .ref h7, .int ln, .ref h8, .int mt, .int en, .int sx, .int pl, .int ov, .int tk, .ref h9])), (h1, .inl (cC, 6, .inl na)), (h2, .inl (cI, 2, .inl cu)), (h3, .inl (cI, 48, .inl pa)), (h4, .inl (cI, 48, .inl re)), (h5, .inl (cZ, 48, .inl (upd cl (24 + sx).toNatClampNeg (vp_nar .boolean 1)))), (h6, .inl (cI, 48, .inl si)), (h7, .inl (cC, 288, .inl lt)), (h8, .inl (cC, 3000, .inl pg)), (h9, .inl (cC, 6, .inl rd))] := hD
      refine lv_aload_n hx hb dd_M_closing_111 rfl (lv_at hl 1 rfl) ?_
      refine lv_aload_n hx hb dd_M_closing_112 rfl (lv_at hl 1 rfl) ?_
      refine va_get (D := (dC, dI)) (ci := 6) (v := .ref h3) (C := cn_M) (T := tt_M) (N := 17) hx hb ht in_M hown hK hP 0 rfl rfl 3 (by decide) (ht _ tw_3_44) (fun _ h9 => h9) rfl dd_M_closing_113 ?_
      refine lv_bipush (v := 24) hx hb dd_M_closing_116 (by decide) ?_
      refine lv_aload_n hx hb dd_M_closing_118 rfl (lv_at hl 1 rfl) ?_
      refine va_get (D := (dC, dI)) (ci := 6) (v := .int sx) (C := cn_M) (T := tt_M) (N := 17) hx hb ht in_M hown hK hP 0 rfl rfl 12 (by decide) (ht _ tw_3_53) (fun _ h9 => h9) rfl dd_M_closing_119 ?_
      refine lv_iadd hx hb dd_M_closing_122 ?_
      obtain ⟨g_32, hF⟩ := jv_gi hF
      refine va_iald hx hb hK hP 3 0 rfl rfl (jv_in g_32) dd_M_closing_123 ?_
      refine va_put (D := (dC, dI)) (ci := 6) (v := .int (pa (24 + sx).toNatClampNeg)) (ty := .int) (C := cn_M) (T := tt_M) (N := 17) hx hb ht in_M ty_M tyok_M nm_M hown hK hP hD hS 0 rfl rfl 12 (by decide) (ht _ tw_3_53) (fun _ h9 => h9) rfl (by decide +kernel) rfl rfl (Nat.le_of_ble_eq_true rfl) dd_M_closing_124 (fun H_33 locs_34 hP hD hS => ?_)
      have hP : va_P (dC, dI) vwCl [(h0, .inr (6, [.int bg, .ref h1, .ref h2, .ref h3, .ref h4, .ref h5, .ref h6, .ref h7, .int ln, .ref h8, .int mt, .int en, .int (pa (24 + sx).toNatClampNeg), .int pl, .int ov, .int tk, .ref h9])), (h1, .inl (cC, 6, .inl na)), (h2, .inl (cI, 2, .inl cu)), (h3, .inl (cI, 48, .inl pa)), (h4, .inl (cI, 48, .inl re)), (h5, .inl (cZ, 48, .inl (upd cl (24 + sx).toNatClampNeg (vp_nar .boolean 1)))), (h6, .inl (cI, 48, .inl si)), (h7, .inl (cC, 288, .inl lt)), (h8, .inl (cC, 3000, .inl pg)), (h9, .inl (cC, 6, .inl rd))] H_33 := hP
      have hD : va_D A [(h0, .inr (6, [.int bg, .ref h1, .ref h2, .ref h3, .ref h4, .ref h5, .ref h6, .ref h7, .int ln, .ref h8, .int mt, .int en, .int (pa (24 + sx).toNatClampNeg), .int pl, .int ov, .int tk, .ref h9])), (h1, .inl (cC, 6, .inl na)), (h2, .inl (cI, 2, .inl cu)), (h3, .inl (cI, 48, .inl pa)), (h4, .inl (cI, 48, .inl re)), (h5, .inl (cZ, 48, .inl (upd cl (24 + sx).toNatClampNeg (vp_nar .boolean 1)))), (h6, .inl (cI, 48, .inl si)), (h7, .inl (cC, 288, .inl lt)), (h8, .inl (cC, 3000, .inl pg)), (h9, .inl (cC, 6, .inl rd))] := hD
      refine lv_aload_n hx hb dd_M_closing_127 rfl (lv_at hl 1 rfl) ?_
      refine lv_iconst (v := 0) hx hb dd_M_closing_128 (by decide) ?_
      refine va_put (D := (dC, dI)) (ci := 6) (v := .int 0) (ty := .boolean) (C := cn_M) (T := tt_M) (N := 17) hx hb ht in_M ty_M tyok_M nm_M hown hK hP hD hS 0 rfl rfl 13 (by decide) (ht _ tw_3_54) (fun _ h9 => h9) rfl (by decide +kernel) rfl rfl (Nat.le_of_ble_eq_true rfl) dd_M_closing_129 (fun H_35 locs_36 hP hD hS => ?_)
      have hP : va_P (dC, dI) vwCl [(h0, .inr (6, [.int bg, .ref h1, .ref h2, .ref h3, .ref h4, .ref h5, .ref h6, .ref h7, .int ln, .ref h8, .int mt, .int en, .int (pa (24 + sx).toNatClampNeg), .int 0, .int ov, .int tk, .ref h9])), (h1, .inl (cC, 6, .inl na)), (h2, .inl (cI, 2, .inl cu)), (h3, .inl (cI, 48, .inl pa)), (h4, .inl (cI, 48, .inl re)), (h5, .inl (cZ, 48, .inl (upd cl (24 + sx).toNatClampNeg (vp_nar .boolean 1)))), (h6, .inl (cI, 48, .inl si)), (h7, .inl (cC, 288, .inl lt)), (h8, .inl (cC, 3000, .inl pg)), (h9, .inl (cC, 6, .inl rd))] H_35 := hP
      have hD : va_D A [(h0, .inr (6, [.int bg, .ref h1, .ref h2, .ref h3, .ref h4, .ref h5, .ref h6, .ref h7, .int ln, .ref h8, .int mt, .int en, .int (pa (24 + sx).toNatClampNeg), .int 0, .int ov, .int tk, .ref h9])), (h1, .inl (cC, 6, .inl na)), (h2, .inl (cI, 2, .inl cu)), (h3, .inl (cI, 48, .inl pa)), (h4, .inl (cI, 48, .inl re)), (h5, .inl (cZ, 48, .inl (upd cl (24 + sx).toNatClampNeg (vp_nar .boolean 1)))), (h6, .inl (cI, 48, .inl si)), (h7, .inl (cC, 288, .inl lt)), (h8, .inl (cC, 3000, .inl pg)), (h9, .inl (cC, 6, .inl rd))] := hD
      refine lv_iload_n hx hb dd_M_closing_132 rfl (lv_at hl 0 rfl) ?_
      obtain ⟨z_37, hF⟩ := jv_gi hF
      subst hQ
      obtain rfl := Option.some.inj hF
      exact W.zret (v := y0) hx hb hr (jv_zn z_37).1 (fun t ht hW => ⟨⟨y0, (), rfl, rfl, by rw [ht]; exact hP, va_K.moved hW.alike hK, hD⟩, hS.F ht⟩) hS.2.2 dd_M_closing_133
  have bl36 : ∀ (mt : Int32) (sx : Int32) (pl : Int32) (tk : Int32) (cl : Nat → Int32) (rd : Nat → Int32) (y1 : Int32), fb_M_closing_36 en cu pa re si lt pg  mt sx pl tk cl rd y1 = some out → ∀ (H : Heap) (locs : List Loc), va_P (dC, dI) vwCl [(h0, .inr (6, [.int bg, .ref h1, .ref h2, .ref h3, .ref h4, .ref h5, .ref h6, .ref h7, .int ln, .ref h8, .int mt, .int en, .int sx, .int pl, .int ov, .int tk, .ref h9])), (h1, .inl (cC, 6, .inl na)), (h2, .inl (cI, 2, .inl cu)), (h3, .inl (cI, 48, .inl pa)), (h4, .inl (cI, 48, .inl re)), (h5, .inl (cZ, 48, .inl cl)), (h6, .inl (cI, 48, .inl si)), (h7, .inl (cC, 288, .inl lt)), (h8, .inl (cC, 3000, .inl pg)), (h9, .inl (cC, 6, .inl rd))] H → va_D A [(h0, .inr (6, [.int bg, .ref h1, .ref h2, .ref h3, .ref h4, .ref h5, .ref h6, .ref h7, .int ln, .ref h8, .int mt, .int en, .int sx, .int pl, .int ov, .int tk, .ref h9])), (h1, .inl (cC, 6, .inl na)), (h2, .inl (cI, 2, .inl cu)), (h3, .inl (cI, 48, .inl pa)), (h4, .inl (cI, 48, .inl re)), (h5, .inl (cZ, 48, .inl cl)), (h6, .inl (cI, 48, .inl si)), (h7, .inl (cC, 288, .inl lt)), (h8, .inl (cC, 3000, .inl pg)), (h9, .inl (cC, 6, .inl rd))] → va_S A s.heap H locs → ∀ ls : Array Slot, lv_has ls 3 [(0, .ref h0)] → W p l e (headSpec ws_M_closing { frames := 3, cells := 0, slots := 0, locals := 67 }).room s m args below meth c H locs 0 0 Q (F0 m 36 ls [.int y1, .ref h0]) := by
    intro mt sx pl tk cl rd y1 hF H locs hP hD hS ls hl
    unfold fb_M_closing_36 at hF
    obtain ⟨o_36, ho_36, hF⟩ := jv_bi hF
    refine jv_mi (wr := []) (w1 := [(h0, .inr (6, [.int bg, .ref h1, .ref h2, .ref h3, .ref h4, .ref h5, .ref h6, .ref h7, .int ln, .ref h8, .int o_36.2, .int en, .int sx, .int pl, .int ov, .int tk, .ref h9])), (h1, .inl (cC, 6, .inl na)), (h2, .inl (cI, 2, .inl cu)), (h3, .inl (cI, 48, .inl pa)), (h4, .inl (cI, 48, .inl re)), (h5, .inl (cZ, 48, .inl cl)), (h6, .inl (cI, 48, .inl si)), (h7, .inl (cC, 288, .inl lt)), (h8, .inl (cC, 3000, .inl pg)), (h9, .inl (cC, 6, .inl rd))]) (va_runV (C := cn_M) (As := [.int y1]) (rest := []) ⟨hx, hb, hml, hown, ht⟩ (c_M_eat l dC dI cI cL cC cZ h0 h1 h2 h3 h4 h5 h6 h7 h8 h9 H.size bg ln mt en sx pl ov tk na cu pa re cl si lt pg rd y1 _ ho_36) (cwV 1 ht (gi_V tw_3_217 tw_3_219 tw_p_29 tw_1_4 tw_3_220) rfl rfl rfl (by decide +kernel) ⟨Nat.le_of_ble_eq_true rfl, Nat.le_of_ble_eq_true rfl⟩) (jv_pv hK hP hD [0, 1, 2, 3, 4, 5, 6, 7, 8, 9] rfl (by decide) rfl (va_recv hK hP (ci := 6) (q0 := 0) rfl rfl)) rfl rfl hl.1 rfl (lv_room (Nat.le_of_ble_eq_true rfl)) dd_M_closing_36 ⟨Nat.le_of_ble_eq_true rfl, Nat.le_of_ble_eq_true rfl⟩) hP hD hS hA [0, 1, 2, 3, 4, 5, 6, 7, 8, 9] [] rfl rfl (by decide) (by decide) (fun H_38 locs_39 hP hD hS => ?_)
    have hP : va_P (dC, dI) vwCl [(h0, .inr (6, [.int bg, .ref h1, .ref h2, .ref h3, .ref h4, .ref h5, .ref h6, .ref h7, .int ln, .ref h8, .int o_36.2, .int en, .int sx, .int pl, .int ov, .int tk, .ref h9])), (h1, .inl (cC, 6, .inl na)), (h2, .inl (cI, 2, .inl cu)), (h3, .inl (cI, 48, .inl pa)), (h4, .inl (cI, 48, .inl re)), (h5, .inl (cZ, 48, .inl cl)), (h6, .inl (cI, 48, .inl si)), (h7, .inl (cC, 288, .inl lt)), (h8, .inl (cC, 3000, .inl pg)), (h9, .inl (cC, 6, .inl rd))] H_38 := hP.sub [0, 1, 2, 3, 4, 5, 6, 7, 8, 9] rfl
    have hD : va_D A [(h0, .inr (6, [.int bg, .ref h1, .ref h2, .ref h3, .ref h4, .ref h5, .ref h6, .ref h7, .int ln, .ref h8, .int o_36.2, .int en, .int sx, .int pl, .int ov, .int tk, .ref h9])), (h1, .inl (cC, 6, .inl na)), (h2, .inl (cI, 2, .inl cu)), (h3, .inl (cI, 48, .inl pa)), (h4, .inl (cI, 48, .inl re)), (h5, .inl (cZ, 48, .inl cl)), (h6, .inl (cI, 48, .inl si)), (h7, .inl (cC, 288, .inl lt)), (h8, .inl (cC, 3000, .inl pg)), (h9, .inl (cC, 6, .inl rd))] := hD.sub [0, 1, 2, 3, 4, 5, 6, 7, 8, 9] (by decide) rfl
    refine lv_if_eq (tgt := 92) hx hb dd_M_closing_39 (by decide) (fun c_40 => ?_) (fun c_40 => ?_)
    · have hF := jv_t c_40 hF
      refine lv_iconst (v := 0) hx hb dd_M_closing_92 (by decide) ?_
      exact bl93 o_36.2 sx pl tk cl rd 0 hF H_38 locs_39 hP hD hS ls (lv_sub hl [0] rfl)
    · have hF := jv_f c_40 hF
      refine lv_aload_n hx hb dd_M_closing_42 rfl (lv_at hl 0 rfl) ?_
      refine lv_aload_n hx hb dd_M_closing_43 rfl (lv_at hl 0 rfl) ?_
      refine lv_iconst (v := 1) hx hb dd_M_closing_44 (by decide) ?_
      refine lv_aload_n hx hb dd_M_closing_45 rfl (lv_at hl 0 rfl) ?_
      refine va_get (D := (dC, dI)) (ci := 6) (v := .int sx) (C := cn_M) (T := tt_M) (N := 17) hx hb ht in_M hown hK hP 0 rfl rfl 12 (by decide) (ht _ tw_3_53) (fun _ h9 => h9) rfl dd_M_closing_46 ?_
      obtain ⟨o_49, ho_49, hF⟩ := jv_bi hF
      refine jv_ci (va_runV (C := cn_M) (As := [.int 1, .int sx]) (rest := [.ref h0]) ⟨hx, hb, hml, hown, ht⟩ (c_M_placeOf l dC dI cI cL cC cZ h0 h1 h2 h3 h4 h5 h6 h7 h8 h9 H_38.size bg ln o_36.2 en sx pl ov tk na cu pa re cl si lt pg rd 1 sx _ ho_49) (cwV 2 ht (gi_V tw_3_205 tw_3_207 tw_p_27 tw_1_4 tw_3_208) rfl rfl rfl (by decide +kernel) ⟨Nat.le_of_ble_eq_true rfl, Nat.le_of_ble_eq_true rfl⟩) (jv_pv hK hP hD [0, 1, 2, 3, 4, 5, 6, 7, 8, 9] rfl (by decide) rfl (va_recv hK hP (ci := 6) (q0 := 0) rfl rfl)) rfl rfl hl.1 rfl (lv_room (Nat.le_of_ble_eq_true rfl)) dd_M_closing_49 ⟨Nat.le_of_ble_eq_true rfl, Nat.le_of_ble_eq_true rfl⟩) ?_
      obtain ⟨o_52, ho_52, hF⟩ := jv_bi hF
      refine jv_mi (wr := []) (w1 := [(h0, .inr (6, [.int bg, .ref h1, .ref h2, .ref h3, .ref h4, .ref h5, .ref h6, .ref h7, .int ln, .ref h8, .int o_52.2, .int en, .int sx, .int pl, .int ov, .int tk, .ref h9])), (h1, .inl (cC, 6, .inl na)), (h2, .inl (cI, 2, .inl cu)), (h3, .inl (cI, 48, .inl pa)), (h4, .inl (cI, 48, .inl re)), (h5, .inl (cZ, 48, .inl cl)), (h6, .inl (cI, 48, .inl si)), (h7, .inl (cC, 288, .inl lt)), (h8, .inl (cC, 3000, .inl pg)), (h9, .inl (cC, 6, .inl rd))]) (va_runV (C := cn_M) (As := [.int o_49]) (rest := []) ⟨hx, hb, hml, hown, ht⟩ (c_M_eatNumber l dC dI cI cL cC cZ h0 h1 h2 h3 h4 h5 h6 h7 h8 h9 H_38.size bg ln o_36.2 en sx pl ov tk na cu pa re cl si lt pg rd o_49 _ ho_52) (cwV 1 ht (gi_V tw_3_233 tw_3_235 tw_p_33 tw_1_4 tw_3_236) rfl rfl rfl (by decide +kernel) ⟨Nat.le_of_ble_eq_true rfl, Nat.le_of_ble_eq_true rfl⟩) (jv_pv hK hP hD [0, 1, 2, 3, 4, 5, 6, 7, 8, 9] rfl (by decide) rfl (va_recv hK hP (ci := 6) (q0 := 0) rfl rfl)) rfl rfl hl.1 rfl (lv_room (Nat.le_of_ble_eq_true rfl)) dd_M_closing_52 ⟨Nat.le_of_ble_eq_true rfl, Nat.le_of_ble_eq_true rfl⟩) hP hD hS hA [0, 1, 2, 3, 4, 5, 6, 7, 8, 9] [] rfl rfl (by decide) (by decide) (fun H_41 locs_42 hP hD hS => ?_)
      have hP : va_P (dC, dI) vwCl [(h0, .inr (6, [.int bg, .ref h1, .ref h2, .ref h3, .ref h4, .ref h5, .ref h6, .ref h7, .int ln, .ref h8, .int o_52.2, .int en, .int sx, .int pl, .int ov, .int tk, .ref h9])), (h1, .inl (cC, 6, .inl na)), (h2, .inl (cI, 2, .inl cu)), (h3, .inl (cI, 48, .inl pa)), (h4, .inl (cI, 48, .inl re)), (h5, .inl (cZ, 48, .inl cl)), (h6, .inl (cI, 48, .inl si)), (h7, .inl (cC, 288, .inl lt)), (h8, .inl (cC, 3000, .inl pg)), (h9, .inl (cC, 6, .inl rd))] H_41 := hP.sub [0, 1, 2, 3, 4, 5, 6, 7, 8, 9] rfl
      have hD : va_D A [(h0, .inr (6, [.int bg, .ref h1, .ref h2, .ref h3, .ref h4, .ref h5, .ref h6, .ref h7, .int ln, .ref h8, .int o_52.2, .int en, .int sx, .int pl, .int ov, .int tk, .ref h9])), (h1, .inl (cC, 6, .inl na)), (h2, .inl (cI, 2, .inl cu)), (h3, .inl (cI, 48, .inl pa)), (h4, .inl (cI, 48, .inl re)), (h5, .inl (cZ, 48, .inl cl)), (h6, .inl (cI, 48, .inl si)), (h7, .inl (cC, 288, .inl lt)), (h8, .inl (cC, 3000, .inl pg)), (h9, .inl (cC, 6, .inl rd))] := hD.sub [0, 1, 2, 3, 4, 5, 6, 7, 8, 9] (by decide) rfl
      refine lv_if_eq (tgt := 92) hx hb dd_M_closing_55 (by decide) (fun c_43 => ?_) (fun c_43 => ?_)
      · have hF := jv_t c_43 hF
        refine lv_iconst (v := 0) hx hb dd_M_closing_92 (by decide) ?_
        exact bl93 o_52.2 sx pl tk cl rd 0 hF H_41 locs_42 hP hD hS ls (lv_sub hl [0] rfl)
      · have hF := jv_f c_43 hF
        refine lv_aload_n hx hb dd_M_closing_58 rfl (lv_at hl 0 rfl) ?_
        refine lv_iconst (v := 3) hx hb dd_M_closing_59 (by decide) ?_
        obtain ⟨o_60, ho_60, hF⟩ := jv_bi hF
        refine jv_mi (wr := []) (w1 := [(h0, .inr (6, [.int bg, .ref h1, .ref h2, .ref h3, .ref h4, .ref h5, .ref h6, .ref h7, .int ln, .ref h8, .int o_60.2, .int en, .int sx, .int pl, .int ov, .int tk, .ref h9])), (h1, .inl (cC, 6, .inl na)), (h2, .inl (cI, 2, .inl cu)), (h3, .inl (cI, 48, .inl pa)), (h4, .inl (cI, 48, .inl re)), (h5, .inl (cZ, 48, .inl cl)), (h6, .inl (cI, 48, .inl si)), (h7, .inl (cC, 288, .inl lt)), (h8, .inl (cC, 3000, .inl pg)), (h9, .inl (cC, 6, .inl rd))]) (va_runV (C := cn_M) (As := [.int 3]) (rest := []) ⟨hx, hb, hml, hown, ht⟩ (c_M_eat l dC dI cI cL cC cZ h0 h1 h2 h3 h4 h5 h6 h7 h8 h9 H_41.size bg ln o_52.2 en sx pl ov tk na cu pa re cl si lt pg rd 3 _ ho_60) (cwV 1 ht (gi_V tw_3_217 tw_3_219 tw_p_29 tw_1_4 tw_3_220) rfl rfl rfl (by decide +kernel) ⟨Nat.le_of_ble_eq_true rfl, Nat.le_of_ble_eq_true rfl⟩) (jv_pv hK hP hD [0, 1, 2, 3, 4, 5, 6, 7, 8, 9] rfl (by decide) rfl (va_recv hK hP (ci := 6) (q0 := 0) rfl rfl)) rfl rfl hl.1 rfl (lv_room (Nat.le_of_ble_eq_true rfl)) dd_M_closing_60 ⟨Nat.le_of_ble_eq_true rfl, Nat.le_of_ble_eq_true rfl⟩) hP hD hS hA [0, 1, 2, 3, 4, 5, 6, 7, 8, 9] [] rfl rfl (by decide) (by decide) (fun H_44 locs_45 hP hD hS => ?_)
        have hP : va_P (dC, dI) vwCl [(h0, .inr (6, [.int bg, .ref h1, .ref h2, .ref h3, .ref h4, .ref h5, .ref h6, .ref h7, .int ln, .ref h8, .int o_60.2, .int en, .int sx, .int pl, .int ov, .int tk, .ref h9])), (h1, .inl (cC, 6, .inl na)), (h2, .inl (cI, 2, .inl cu)), (h3, .inl (cI, 48, .inl pa)), (h4, .inl (cI, 48, .inl re)), (h5, .inl (cZ, 48, .inl cl)), (h6, .inl (cI, 48, .inl si)), (h7, .inl (cC, 288, .inl lt)), (h8, .inl (cC, 3000, .inl pg)), (h9, .inl (cC, 6, .inl rd))] H_44 := hP.sub [0, 1, 2, 3, 4, 5, 6, 7, 8, 9] rfl
        have hD : va_D A [(h0, .inr (6, [.int bg, .ref h1, .ref h2, .ref h3, .ref h4, .ref h5, .ref h6, .ref h7, .int ln, .ref h8, .int o_60.2, .int en, .int sx, .int pl, .int ov, .int tk, .ref h9])), (h1, .inl (cC, 6, .inl na)), (h2, .inl (cI, 2, .inl cu)), (h3, .inl (cI, 48, .inl pa)), (h4, .inl (cI, 48, .inl re)), (h5, .inl (cZ, 48, .inl cl)), (h6, .inl (cI, 48, .inl si)), (h7, .inl (cC, 288, .inl lt)), (h8, .inl (cC, 3000, .inl pg)), (h9, .inl (cC, 6, .inl rd))] := hD.sub [0, 1, 2, 3, 4, 5, 6, 7, 8, 9] (by decide) rfl
        refine lv_if_eq (tgt := 92) hx hb dd_M_closing_63 (by decide) (fun c_46 => ?_) (fun c_46 => ?_)
        · have hF := jv_t c_46 hF
          refine lv_iconst (v := 0) hx hb dd_M_closing_92 (by decide) ?_
          exact bl93 o_60.2 sx pl tk cl rd 0 hF H_44 locs_45 hP hD hS ls (lv_sub hl [0] rfl)
        · have hF := jv_f c_46 hF
          refine lv_aload_n hx hb dd_M_closing_66 rfl (lv_at hl 0 rfl) ?_
          refine lv_aload_n hx hb dd_M_closing_67 rfl (lv_at hl 0 rfl) ?_
          refine va_get (D := (dC, dI)) (ci := 6) (v := .int en) (C := cn_M) (T := tt_M) (N := 17) hx hb ht in_M hown hK hP 0 rfl rfl 11 (by decide) (ht _ tw_3_52) (fun _ h9 => h9) rfl dd_M_closing_68 ?_
          obtain ⟨o_71, ho_71, hF⟩ := jv_bi hF
          refine jv_mi (wr := []) (w1 := [(h0, .inr (6, [.int bg, .ref h1, .ref h2, .ref h3, .ref h4, .ref h5, .ref h6, .ref h7, .int ln, .ref h8, .int o_71.2.1, .int en, .int sx, .int pl, .int ov, .int o_71.2.2.1, .ref h9])), (h1, .inl (cC, 6, .inl na)), (h2, .inl (cI, 2, .inl cu)), (h3, .inl (cI, 48, .inl pa)), (h4, .inl (cI, 48, .inl re)), (h5, .inl (cZ, 48, .inl cl)), (h6, .inl (cI, 48, .inl si)), (h7, .inl (cC, 288, .inl lt)), (h8, .inl (cC, 3000, .inl pg)), (h9, .inl (cC, 6, .inl o_71.2.2.2))]) (va_runV (C := cn_M) (As := [.int en]) (rest := []) ⟨hx, hb, hml, hown, ht⟩ (c_M_eatName l dC dI cI cL cC cZ h0 h1 h2 h3 h4 h5 h6 h7 h8 h9 H_44.size bg ln o_60.2 en sx pl ov tk na cu pa re cl si lt pg rd en _ ho_71) (cwV 1 ht (gi_V tw_4_1 tw_4_3 tw_p_35 tw_1_4 tw_4_4) rfl rfl rfl (by decide +kernel) ⟨Nat.le_of_ble_eq_true rfl, Nat.le_of_ble_eq_true rfl⟩) (jv_pv hK hP hD [0, 1, 2, 3, 4, 5, 6, 7, 8, 9] rfl (by decide) rfl (va_recv hK hP (ci := 6) (q0 := 0) rfl rfl)) rfl rfl hl.1 rfl (lv_room (Nat.le_of_ble_eq_true rfl)) dd_M_closing_71 ⟨Nat.le_of_ble_eq_true rfl, Nat.le_of_ble_eq_true rfl⟩) hP hD hS hA [0, 1, 2, 3, 4, 5, 6, 7, 8, 9] [] rfl rfl (by decide) (by decide) (fun H_47 locs_48 hP hD hS => ?_)
          have hP : va_P (dC, dI) vwCl [(h0, .inr (6, [.int bg, .ref h1, .ref h2, .ref h3, .ref h4, .ref h5, .ref h6, .ref h7, .int ln, .ref h8, .int o_71.2.1, .int en, .int sx, .int pl, .int ov, .int o_71.2.2.1, .ref h9])), (h1, .inl (cC, 6, .inl na)), (h2, .inl (cI, 2, .inl cu)), (h3, .inl (cI, 48, .inl pa)), (h4, .inl (cI, 48, .inl re)), (h5, .inl (cZ, 48, .inl cl)), (h6, .inl (cI, 48, .inl si)), (h7, .inl (cC, 288, .inl lt)), (h8, .inl (cC, 3000, .inl pg)), (h9, .inl (cC, 6, .inl o_71.2.2.2))] H_47 := hP.sub [0, 1, 2, 3, 4, 5, 6, 7, 8, 9] rfl
          have hD : va_D A [(h0, .inr (6, [.int bg, .ref h1, .ref h2, .ref h3, .ref h4, .ref h5, .ref h6, .ref h7, .int ln, .ref h8, .int o_71.2.1, .int en, .int sx, .int pl, .int ov, .int o_71.2.2.1, .ref h9])), (h1, .inl (cC, 6, .inl na)), (h2, .inl (cI, 2, .inl cu)), (h3, .inl (cI, 48, .inl pa)), (h4, .inl (cI, 48, .inl re)), (h5, .inl (cZ, 48, .inl cl)), (h6, .inl (cI, 48, .inl si)), (h7, .inl (cC, 288, .inl lt)), (h8, .inl (cC, 3000, .inl pg)), (h9, .inl (cC, 6, .inl o_71.2.2.2))] := hD.sub [0, 1, 2, 3, 4, 5, 6, 7, 8, 9] (by decide) rfl
          refine lv_if_eq (tgt := 92) hx hb dd_M_closing_74 (by decide) (fun c_49 => ?_) (fun c_49 => ?_)
          · have hF := jv_t c_49 hF
            refine lv_iconst (v := 0) hx hb dd_M_closing_92 (by decide) ?_
            exact bl93 o_71.2.1 sx pl o_71.2.2.1 cl o_71.2.2.2 0 hF H_47 locs_48 hP hD hS ls (lv_sub hl [0] rfl)
          · have hF := jv_f c_49 hF
            refine lv_aload_n hx hb dd_M_closing_77 rfl (lv_at hl 0 rfl) ?_
            refine lv_aload_n hx hb dd_M_closing_78 rfl (lv_at hl 0 rfl) ?_
            refine va_get (D := (dC, dI)) (ci := 6) (v := .int sx) (C := cn_M) (T := tt_M) (N := 17) hx hb ht in_M hown hK hP 0 rfl rfl 12 (by decide) (ht _ tw_3_53) (fun _ h9 => h9) rfl dd_M_closing_79 ?_
            obtain ⟨o_82, ho_82, hF⟩ := jv_bi hF
            refine jv_ci (va_runV (C := cn_M) (As := [.int sx]) (rest := []) ⟨hx, hb, hml, hown, ht⟩ (c_M_isName l dC dI cI cL cC cZ h0 h1 h2 h3 h4 h5 h6 h7 h8 h9 H_47.size bg ln o_71.2.1 en sx pl ov o_71.2.2.1 na cu pa re cl si lt pg o_71.2.2.2 sx _ ho_82) (cwV 1 ht (gi_V tw_4_5 tw_4_7 tw_p_36 tw_1_4 tw_4_8) rfl rfl rfl (by decide +kernel) ⟨Nat.le_of_ble_eq_true rfl, Nat.le_of_ble_eq_true rfl⟩) (jv_pv hK hP hD [0, 1, 2, 3, 4, 5, 6, 7, 8, 9] rfl (by decide) rfl (va_recv hK hP (ci := 6) (q0 := 0) rfl rfl)) rfl rfl hl.1 rfl (lv_room (Nat.le_of_ble_eq_true rfl)) dd_M_closing_82 ⟨Nat.le_of_ble_eq_true rfl, Nat.le_of_ble_eq_true rfl⟩) ?_
            refine lv_if_eq (tgt := 92) hx hb dd_M_closing_85 (by decide) (fun c_50 => ?_) (fun c_50 => ?_)
            · have hF := jv_t c_50 hF
              refine lv_iconst (v := 0) hx hb dd_M_closing_92 (by decide) ?_
              exact bl93 o_71.2.1 sx pl o_71.2.2.1 cl o_71.2.2.2 0 hF H_47 locs_48 hP hD hS ls (lv_sub hl [0] rfl)
            · have hF := jv_f c_50 hF
              refine lv_iconst (v := 1) hx hb dd_M_closing_88 (by decide) ?_
              refine lv_goto (tgt := 93) hx hb dd_M_closing_89 (by decide) ?_
              exact bl93 o_71.2.1 sx pl o_71.2.2.1 cl o_71.2.2.2 1 hF H_47 locs_48 hP hD hS ls (lv_sub hl [0] rfl)
  unfold fn_M_closing at hF
  refine lv_aload_n hx hb dd_M_closing_0 rfl (lv_at hl 0 rfl) ?_
  refine lv_iconst (v := 1) hx hb dd_M_closing_1 (by decide) ?_
  refine lv_aload_n hx hb dd_M_closing_2 rfl (lv_at hl 0 rfl) ?_
  refine va_get (D := (dC, dI)) (ci := 6) (v := .int sx) (C := cn_M) (T := tt_M) (N := 17) hx hb ht in_M hown hK hP 0 rfl rfl 12 (by decide) (ht _ tw_3_53) (fun _ h9 => h9) rfl dd_M_closing_3 ?_
  obtain ⟨o_6, ho_6, hF⟩ := jv_bi hF
  refine jv_ci (va_runV (C := cn_M) (As := [.int 1, .int sx]) (rest := []) ⟨hx, hb, hml, hown, ht⟩ (c_M_depthOf l dC dI cI cL cC cZ h0 h1 h2 h3 h4 h5 h6 h7 h8 h9 s.heap.size bg ln mt en sx pl ov tk na cu pa re cl si lt pg rd 1 sx _ ho_6) (cwV 2 ht (gi_V tw_3_106 tw_3_108 tw_p_15 tw_1_4 tw_3_109) rfl rfl rfl (by decide +kernel) ⟨Nat.le_of_ble_eq_true rfl, Nat.le_of_ble_eq_true rfl⟩) (jv_pv hK hP hD [0, 1, 2, 3, 4, 5, 6, 7, 8, 9] rfl (by decide) rfl (va_recv hK hP (ci := 6) (q0 := 0) rfl rfl)) rfl rfl hl.1 rfl (lv_room (Nat.le_of_ble_eq_true rfl)) dd_M_closing_6 ⟨Nat.le_of_ble_eq_true rfl, Nat.le_of_ble_eq_true rfl⟩) ?_
  refine lv_istore_n (lv' := [(1, .int o_6), (0, .ref h0)]) hx hb dd_M_closing_9 rfl hl (by decide) rfl (fun ls hl => ?_)
  refine lv_aload_n hx hb dd_M_closing_10 rfl (lv_at hl 1 rfl) ?_
  refine lv_iload_n hx hb dd_M_closing_11 rfl (lv_at hl 0 rfl) ?_
  obtain ⟨o_12, ho_12, hF⟩ := jv_bi hF
  refine jv_mi (wr := []) (w1 := [(h0, .inr (6, [.int bg, .ref h1, .ref h2, .ref h3, .ref h4, .ref h5, .ref h6, .ref h7, .int ln, .ref h8, .int o_12.2, .int en, .int sx, .int pl, .int ov, .int tk, .ref h9])), (h1, .inl (cC, 6, .inl na)), (h2, .inl (cI, 2, .inl cu)), (h3, .inl (cI, 48, .inl pa)), (h4, .inl (cI, 48, .inl re)), (h5, .inl (cZ, 48, .inl cl)), (h6, .inl (cI, 48, .inl si)), (h7, .inl (cC, 288, .inl lt)), (h8, .inl (cC, 3000, .inl pg)), (h9, .inl (cC, 6, .inl rd))]) (va_runV (C := cn_M) (As := [.int o_6]) (rest := []) ⟨hx, hb, hml, hown, ht⟩ (c_M_eatSpaces l dC dI cI cL cC cZ h0 h1 h2 h3 h4 h5 h6 h7 h8 h9 s.heap.size bg ln mt en sx pl ov tk na cu pa re cl si lt pg rd o_6 _ ho_12) (cwV 1 ht (gi_V tw_3_229 tw_3_231 tw_p_32 tw_1_4 tw_3_232) rfl rfl rfl (by decide +kernel) ⟨Nat.le_of_ble_eq_true rfl, Nat.le_of_ble_eq_true rfl⟩) (jv_pv hK hP hD [0, 1, 2, 3, 4, 5, 6, 7, 8, 9] rfl (by decide) rfl (va_recv hK hP (ci := 6) (q0 := 0) rfl rfl)) rfl rfl hl.1 rfl (lv_room (Nat.le_of_ble_eq_true rfl)) dd_M_closing_12 ⟨Nat.le_of_ble_eq_true rfl, Nat.le_of_ble_eq_true rfl⟩) hP hD hS hA [0, 1, 2, 3, 4, 5, 6, 7, 8, 9] [] rfl rfl (by decide) (by decide) (fun H_51 locs_52 hP hD hS => ?_)
  have hP : va_P (dC, dI) vwCl [(h0, .inr (6, [.int bg, .ref h1, .ref h2, .ref h3, .ref h4, .ref h5, .ref h6, .ref h7, .int ln, .ref h8, .int o_12.2, .int en, .int sx, .int pl, .int ov, .int tk, .ref h9])), (h1, .inl (cC, 6, .inl na)), (h2, .inl (cI, 2, .inl cu)), (h3, .inl (cI, 48, .inl pa)), (h4, .inl (cI, 48, .inl re)), (h5, .inl (cZ, 48, .inl cl)), (h6, .inl (cI, 48, .inl si)), (h7, .inl (cC, 288, .inl lt)), (h8, .inl (cC, 3000, .inl pg)), (h9, .inl (cC, 6, .inl rd))] H_51 := hP.sub [0, 1, 2, 3, 4, 5, 6, 7, 8, 9] rfl
  have hD : va_D A [(h0, .inr (6, [.int bg, .ref h1, .ref h2, .ref h3, .ref h4, .ref h5, .ref h6, .ref h7, .int ln, .ref h8, .int o_12.2, .int en, .int sx, .int pl, .int ov, .int tk, .ref h9])), (h1, .inl (cC, 6, .inl na)), (h2, .inl (cI, 2, .inl cu)), (h3, .inl (cI, 48, .inl pa)), (h4, .inl (cI, 48, .inl re)), (h5, .inl (cZ, 48, .inl cl)), (h6, .inl (cI, 48, .inl si)), (h7, .inl (cC, 288, .inl lt)), (h8, .inl (cC, 3000, .inl pg)), (h9, .inl (cC, 6, .inl rd))] := hD.sub [0, 1, 2, 3, 4, 5, 6, 7, 8, 9] (by decide) rfl
  refine lv_if_eq (tgt := 92) hx hb dd_M_closing_15 (by decide) (fun c_53 => ?_) (fun c_53 => ?_)
  · have hF := jv_t c_53 hF
    refine lv_iconst (v := 0) hx hb dd_M_closing_92 (by decide) ?_
    exact bl93 o_12.2 sx pl tk cl rd 0 hF H_51 locs_52 hP hD hS ls (lv_sub hl [1] rfl)
  · have hF := jv_f c_53 hF
    refine lv_aload_n hx hb dd_M_closing_18 rfl (lv_at hl 1 rfl) ?_
    refine lv_aload_n hx hb dd_M_closing_19 rfl (lv_at hl 1 rfl) ?_
    refine lv_iconst (v := 1) hx hb dd_M_closing_20 (by decide) ?_
    refine lv_aload_n hx hb dd_M_closing_21 rfl (lv_at hl 1 rfl) ?_
    refine va_get (D := (dC, dI)) (ci := 6) (v := .int sx) (C := cn_M) (T := tt_M) (N := 17) hx hb ht in_M hown hK hP 0 rfl rfl 12 (by decide) (ht _ tw_3_53) (fun _ h9 => h9) rfl dd_M_closing_22 ?_
    obtain ⟨o_25, ho_25, hF⟩ := jv_bi hF
    refine jv_ci (va_runV (C := cn_M) (As := [.int 1, .int sx]) (rest := [.ref h0]) ⟨hx, hb, hml, hown, ht⟩ (c_M_good l dC dI cI cL cC cZ h0 h1 h2 h3 h4 h5 h6 h7 h8 h9 H_51.size bg ln o_12.2 en sx pl ov tk na cu pa re cl si lt pg rd 1 sx _ ho_25) (cwV 2 ht (gi_V tw_3_142 tw_3_144 tw_p_19 tw_1_4 tw_3_145) rfl rfl rfl (by decide +kernel) ⟨Nat.le_of_ble_eq_true rfl, Nat.le_of_ble_eq_true rfl⟩) (jv_pv hK hP hD [0, 1, 2, 3, 4, 5, 6, 7, 8, 9] rfl (by decide) rfl (va_recv hK hP (ci := 6) (q0 := 0) rfl rfl)) rfl rfl hl.1 rfl (lv_room (Nat.le_of_ble_eq_true rfl)) dd_M_closing_25 ⟨Nat.le_of_ble_eq_true rfl, Nat.le_of_ble_eq_true rfl⟩) ?_
    refine lv_if_eq (tgt := 35) hx hb dd_M_closing_28 (by decide) (fun c_54 => ?_) (fun c_54 => ?_)
    · have hF := jv_t c_54 hF
      refine lv_iconst (v := 2) hx hb dd_M_closing_35 (by decide) ?_
      exact bl36 o_12.2 sx pl tk cl rd 2 hF H_51 locs_52 hP hD hS ls (lv_sub hl [1] rfl)
    · have hF := jv_f c_54 hF
      refine lv_iconst (v := 1) hx hb dd_M_closing_31 (by decide) ?_
      refine lv_goto (tgt := 36) hx hb dd_M_closing_32 (by decide) ?_
      exact bl36 o_12.2 sx pl tk cl rd 1 hF H_51 locs_52 hP hD hS ls (lv_sub hl [1] rfl)
set_option maxHeartbeats 40000000 in
set_option maxRecDepth 100000 in
theorem c_M_plan (l : Launch) (dC : Nat → ClassId) (dI : Nat → Nat → Nat) (cI cL cC cZ : ClassId) (h0 h1 h2 h3 h4 h5 h6 h7 h8 h9 : Nat) (sz : Nat) (bg : Int32) (ln : Int32) (mt : Int32) (en : Int32) (sx : Int32) (pl : Int32) (ov : Int32) (tk : Int32) (na : Nat → Int32) (cu : Nat → Int32) (pa : Nat → Int32) (re : Nat → Int32) (cl : Nat → Int32) (si : Nat → Int32) (lt : Nat → Int32) (pg : Nat → Int32) (rd : Nat → Int32) (x1 : Int32) (x2 : Int32) (out : Int32 × Int32 × Int32 × Int32) (hF : fn_M_plan en sx cu pa pg mt pl ov x1 x2 = some out) : Met l yy_M_plan ws_M_plan { frames := 3, cells := 0, slots := 0, locals := 67 } (mP_ (dC, dI) (tk_ cI cL cC cZ) [(h0, .inr (6, [.int bg, .ref h1, .ref h2, .ref h3, .ref h4, .ref h5, .ref h6, .ref h7, .int ln, .ref h8, .int mt, .int en, .int sx, .int pl, .int ov, .int tk, .ref h9])), (h1, .inl (cC, 6, .inl na)), (h2, .inl (cI, 2, .inl cu)), (h3, .inl (cI, 48, .inl pa)), (h4, .inl (cI, 48, .inl re)), (h5, .inl (cZ, 48, .inl cl)), (h6, .inl (cI, 48, .inl si)), (h7, .inl (cC, 288, .inl lt)), (h8, .inl (cC, 3000, .inl pg)), (h9, .inl (cC, 6, .inl rd))] sz [.ref h0, .int x1, .int x2]) (va_Qi (fun r (_ : Unit) => r = out.1) (mB_ (dC, dI) (tk_ cI cL cC cZ) [(h0, .inr (6, [.int bg, .ref h1, .ref h2, .ref h3, .ref h4, .ref h5, .ref h6, .ref h7, .int ln, .ref h8, .int out.2.1, .int en, .int sx, .int out.2.2.1, .int out.2.2.2, .int tk, .ref h9])), (h1, .inl (cC, 6, .inl na)), (h2, .inl (cI, 2, .inl cu)), (h3, .inl (cI, 48, .inl pa)), (h4, .inl (cI, 48, .inl re)), (h5, .inl (cZ, 48, .inl cl)), (h6, .inl (cI, 48, .inl si)), (h7, .inl (cC, 288, .inl lt)), (h8, .inl (cC, 3000, .inl pg)), (h9, .inl (cC, 6, .inl rd))] (va_A [(h0, .inr (6, [.int bg, .ref h1, .ref h2, .ref h3, .ref h4, .ref h5, .ref h6, .ref h7, .int ln, .ref h8, .int mt, .int en, .int sx, .int pl, .int ov, .int tk, .ref h9])), (h1, .inl (cC, 6, .inl na)), (h2, .inl (cI, 2, .inl cu)), (h3, .inl (cI, 48, .inl pa)), (h4, .inl (cI, 48, .inl re)), (h5, .inl (cZ, 48, .inl cl)), (h6, .inl (cI, 48, .inl si)), (h7, .inl (cC, 288, .inl lt)), (h8, .inl (cC, 3000, .inl pg)), (h9, .inl (cC, 6, .inl rd))] sz)) (va_A [(h0, .inr (6, [.int bg, .ref h1, .ref h2, .ref h3, .ref h4, .ref h5, .ref h6, .ref h7, .int ln, .ref h8, .int mt, .int en, .int sx, .int pl, .int ov, .int tk, .ref h9])), (h1, .inl (cC, 6, .inl na)), (h2, .inl (cI, 2, .inl cu)), (h3, .inl (cI, 48, .inl pa)), (h4, .inl (cI, 48, .inl re)), (h5, .inl (cZ, 48, .inl cl)), (h6, .inl (cI, 48, .inl si)), (h7, .inl (cC, 288, .inl lt)), (h8, .inl (cC, 3000, .inl pg)), (h9, .inl (cC, 6, .inl rd))] sz)) 0 0 (va_A [(h0, .inr (6, [.int bg, .ref h1, .ref h2, .ref h3, .ref h4, .ref h5, .ref h6, .ref h7, .int ln, .ref h8, .int mt, .int en, .int sx, .int pl, .int ov, .int tk, .ref h9])), (h1, .inl (cC, 6, .inl na)), (h2, .inl (cI, 2, .inl cu)), (h3, .inl (cI, 48, .inl pa)), (h4, .inl (cI, 48, .inl re)), (h5, .inl (cZ, 48, .inl cl)), (h6, .inl (cI, 48, .inl si)), (h7, .inl (cC, 288, .inl lt)), (h8, .inl (cC, 3000, .inl pg)), (h9, .inl (cC, 6, .inl rd))] sz) := by
  refine Met.ofW (cc := cc_M_plan) (maxL := 3) (ret := (some .boolean)) (by decide) rfl ?_
  intro p e s m args below meth c s₁ B hml hv
  obtain ⟨hargs, hsz, hP, hK, hD0⟩ := hv
  have hx := B.exec
  have hb := B.bytes
  have hr := B.returns
  have hts := atoms_spec (ws := ws_M_plan) B.pre
  have ht : ∀ w ∈ TB_, w.before args s = true := fun w h => hts w (List.mem_cons_of_mem _ h)
  have hown : s.vm.findClass cn_M = some m.cls := findClass_of_methodNamed B.named
  have hlocks := B.notSynchronized
  subst hsz
  have hD := hD0.self (sz := s.heap.size)
  generalize hAe : va_A [(h0, .inr (6, [.int bg, .ref h1, .ref h2, .ref h3, .ref h4, .ref h5, .ref h6, .ref h7, .int ln, .ref h8, .int mt, .int en, .int sx, .int pl, .int ov, .int tk, .ref h9])), (h1, .inl (cC, 6, .inl na)), (h2, .inl (cI, 2, .inl cu)), (h3, .inl (cI, 48, .inl pa)), (h4, .inl (cI, 48, .inl re)), (h5, .inl (cZ, 48, .inl cl)), (h6, .inl (cI, 48, .inl si)), (h7, .inl (cC, 288, .inl lt)), (h8, .inl (cC, 3000, .inl pg)), (h9, .inl (cC, 6, .inl rd))] s.heap.size = A at hD ⊢
  have hA : ∀ q : Nat, s.heap.size ≤ q → A q := fun q h => by rw [← hAe]; exact Or.inr h
  have hS : va_S A s.heap s.heap [] := va_S.rf
  have hP : va_P (dC, dI) vwCl [(h0, .inr (6, [.int bg, .ref h1, .ref h2, .ref h3, .ref h4, .ref h5, .ref h6, .ref h7, .int ln, .ref h8, .int mt, .int en, .int sx, .int pl, .int ov, .int tk, .ref h9])), (h1, .inl (cC, 6, .inl na)), (h2, .inl (cI, 2, .inl cu)), (h3, .inl (cI, 48, .inl pa)), (h4, .inl (cI, 48, .inl re)), (h5, .inl (cZ, 48, .inl cl)), (h6, .inl (cI, 48, .inl si)), (h7, .inl (cC, 288, .inl lt)), (h8, .inl (cC, 3000, .inl pg)), (h9, .inl (cC, 6, .inl rd))] s.heap := hP
  have hl := lv_entry [.ref h0, .int x1, .int x2] (n := 3) (Nat.le_of_ble_eq_true rfl)
  have he : entryFrame m args 3 = _ := (congrArg (fun a => entryFrame m a 3) hargs).trans (lg_entry_eq m [.ref h0, .int x1, .int x2] 3)
  rw [he]
  generalize (lg_sl [.ref h0, .int x1, .int x2] ++ List.replicate (3 - (lg_sl [.ref h0, .int x1, .int x2]).length) Slot.unset).toArray = ls at hl ⊢
  have hl : lv_has ls 3 [(0, .ref h0), (1, .int x1), (2, .int x2)] := hl
  generalize hQ : MQ below _ args s _ _ _ = Q
  have bl64 : ∀ (mt : Int32) (pl : Int32) (ov : Int32) (y1 : Int32), fb_M_plan_64 en sx cu pa pg  mt pl ov y1 = some out → ∀ (H : Heap) (locs : List Loc), va_P (dC, dI) vwCl [(h0, .inr (6, [.int bg, .ref h1, .ref h2, .ref h3, .ref h4, .ref h5, .ref h6, .ref h7, .int ln, .ref h8, .int mt, .int en, .int sx, .int pl, .int ov, .int tk, .ref h9])), (h1, .inl (cC, 6, .inl na)), (h2, .inl (cI, 2, .inl cu)), (h3, .inl (cI, 48, .inl pa)), (h4, .inl (cI, 48, .inl re)), (h5, .inl (cZ, 48, .inl cl)), (h6, .inl (cI, 48, .inl si)), (h7, .inl (cC, 288, .inl lt)), (h8, .inl (cC, 3000, .inl pg)), (h9, .inl (cC, 6, .inl rd))] H → va_D A [(h0, .inr (6, [.int bg, .ref h1, .ref h2, .ref h3, .ref h4, .ref h5, .ref h6, .ref h7, .int ln, .ref h8, .int mt, .int en, .int sx, .int pl, .int ov, .int tk, .ref h9])), (h1, .inl (cC, 6, .inl na)), (h2, .inl (cI, 2, .inl cu)), (h3, .inl (cI, 48, .inl pa)), (h4, .inl (cI, 48, .inl re)), (h5, .inl (cZ, 48, .inl cl)), (h6, .inl (cI, 48, .inl si)), (h7, .inl (cC, 288, .inl lt)), (h8, .inl (cC, 3000, .inl pg)), (h9, .inl (cC, 6, .inl rd))] → va_S A s.heap H locs → ∀ ls : Array Slot, lv_has ls 3 [(0, .ref h0)] → W p l e (headSpec ws_M_plan { frames := 3, cells := 0, slots := 0, locals := 67 }).room s m args below meth c H locs 0 0 Q (F0 m 64 ls [.int y1, .ref h0]) := by
    intro mt pl ov y1 hF H locs hP hD hS ls hl
    unfold fb_M_plan_64 at hF
    obtain ⟨z_22, hF⟩ := jv_gi hF
    refine va_put (D := (dC, dI)) (ci := 6) (v := .int y1) (ty := .boolean) (C := cn_M) (T := tt_M) (N := 17) hx hb ht in_M ty_M tyok_M nm_M hown hK hP hD hS 0 rfl rfl 13 (by decide) (ht _ tw_3_54) (fun _ h9 => h9) rfl (by decide +kernel) (jv_zn z_22).1 (jv_zn z_22).2 (Nat.le_of_ble_eq_true rfl) dd_M_plan_64 (fun H_23 locs_24 hP hD hS => ?_)
    have hP : va_P (dC, dI) vwCl [(h0, .inr (6, [.int bg, .ref h1, .ref h2, .ref h3, .ref h4, .ref h5, .ref h6, .ref h7, .int ln, .ref h8, .int mt, .int en, .int sx, .int y1, .int ov, .int tk, .ref h9])), (h1, .inl (cC, 6, .inl na)), (h2, .inl (cI, 2, .inl cu)), (h3, .inl (cI, 48, .inl pa)), (h4, .inl (cI, 48, .inl re)), (h5, .inl (cZ, 48, .inl cl)), (h6, .inl (cI, 48, .inl si)), (h7, .inl (cC, 288, .inl lt)), (h8, .inl (cC, 3000, .inl pg)), (h9, .inl (cC, 6, .inl rd))] H_23 := hP
    have hD : va_D A [(h0, .inr (6, [.int bg, .ref h1, .ref h2, .ref h3, .ref h4, .ref h5, .ref h6, .ref h7, .int ln, .ref h8, .int mt, .int en, .int sx, .int y1, .int ov, .int tk, .ref h9])), (h1, .inl (cC, 6, .inl na)), (h2, .inl (cI, 2, .inl cu)), (h3, .inl (cI, 48, .inl pa)), (h4, .inl (cI, 48, .inl re)), (h5, .inl (cZ, 48, .inl cl)), (h6, .inl (cI, 48, .inl si)), (h7, .inl (cC, 288, .inl lt)), (h8, .inl (cC, 3000, .inl pg)), (h9, .inl (cC, 6, .inl rd))] := hD
    refine lv_aload_n hx hb dd_M_plan_67 rfl (lv_at hl 0 rfl) ?_
    refine lv_aload_n hx hb dd_M_plan_68 rfl (lv_at hl 0 rfl) ?_
    refine va_get (D := (dC, dI)) (ci := 6) (v := .int sx) (C := cn_M) (T := tt_M) (N := 17) hx hb ht in_M hown hK hP 0 rfl rfl 12 (by decide) (ht _ tw_3_53) (fun _ h9 => h9) rfl dd_M_plan_69 ?_
    refine lv_if_ge (tgt := 79) hx hb dd_M_plan_72 (by decide) (fun c_25 => ?_) (fun c_25 => ?_)
    · have hF := jv_t c_25 hF
      refine lv_iconst (v := 0) hx hb dd_M_plan_79 (by decide) ?_
      refine va_put (D := (dC, dI)) (ci := 6) (v := .int 0) (ty := .boolean) (C := cn_M) (T := tt_M) (N := 17) hx hb ht in_M ty_M tyok_M nm_M hown hK hP hD hS 0 rfl rfl 14 (by decide) (ht _ tw_3_55) (fun _ h9 => h9) rfl (by decide +kernel) rfl rfl (Nat.le_of_ble_eq_true rfl) dd_M_plan_80 (fun H_26 locs_27 hP hD hS => ?_)
      have hP : va_P (dC, dI) vwCl [(h0, .inr (6, [.int bg, .ref h1, .ref h2, .ref h3, .ref h4, .ref h5, .ref h6, .ref h7, .int ln, .ref h8, .int mt, .int en, .int sx, .int y1, .int 0, .int tk, .ref h9])), (h1, .inl (cC, 6, .inl na)), (h2, .inl (cI, 2, .inl cu)), (h3, .inl (cI, 48, .inl pa)), (h4, .inl (cI, 48, .inl re)), (h5, .inl (cZ, 48, .inl cl)), (h6, .inl (cI, 48, .inl si)), (h7, .inl (cC, 288, .inl lt)), (h8, .inl (cC, 3000, .inl pg)), (h9, .inl (cC, 6, .inl rd))] H_26 := hP
      have hD : va_D A [(h0, .inr (6, [.int bg, .ref h1, .ref h2, .ref h3, .ref h4, .ref h5, .ref h6, .ref h7, .int ln, .ref h8, .int mt, .int en, .int sx, .int y1, .int 0, .int tk, .ref h9])), (h1, .inl (cC, 6, .inl na)), (h2, .inl (cI, 2, .inl cu)), (h3, .inl (cI, 48, .inl pa)), (h4, .inl (cI, 48, .inl re)), (h5, .inl (cZ, 48, .inl cl)), (h6, .inl (cI, 48, .inl si)), (h7, .inl (cC, 288, .inl lt)), (h8, .inl (cC, 3000, .inl pg)), (h9, .inl (cC, 6, .inl rd))] := hD
      refine lv_iconst (v := 1) hx hb dd_M_plan_83 (by decide) ?_
      subst hQ
      obtain rfl := Option.some.inj hF
      exact W.zret (v := 1) hx hb hr rfl (fun t ht hW => ⟨⟨1, (), rfl, rfl, by rw [ht]; exact hP, va_K.moved hW.alike hK, hD⟩, hS.F ht⟩) hS.2.2 dd_M_plan_84
    · have hF := jv_f c_25 hF
      refine lv_iconst (v := 1) hx hb dd_M_plan_75 (by decide) ?_
      refine lv_goto (tgt := 80) hx hb dd_M_plan_76 (by decide) ?_
      refine va_put (D := (dC, dI)) (ci := 6) (v := .int 1) (ty := .boolean) (C := cn_M) (T := tt_M) (N := 17) hx hb ht in_M ty_M tyok_M nm_M hown hK hP hD hS 0 rfl rfl 14 (by decide) (ht _ tw_3_55) (fun _ h9 => h9) rfl (by decide +kernel) rfl rfl (Nat.le_of_ble_eq_true rfl) dd_M_plan_80 (fun H_28 locs_29 hP hD hS => ?_)
      have hP : va_P (dC, dI) vwCl [(h0, .inr (6, [.int bg, .ref h1, .ref h2, .ref h3, .ref h4, .ref h5, .ref h6, .ref h7, .int ln, .ref h8, .int mt, .int en, .int sx, .int y1, .int 1, .int tk, .ref h9])), (h1, .inl (cC, 6, .inl na)), (h2, .inl (cI, 2, .inl cu)), (h3, .inl (cI, 48, .inl pa)), (h4, .inl (cI, 48, .inl re)), (h5, .inl (cZ, 48, .inl cl)), (h6, .inl (cI, 48, .inl si)), (h7, .inl (cC, 288, .inl lt)), (h8, .inl (cC, 3000, .inl pg)), (h9, .inl (cC, 6, .inl rd))] H_28 := hP
      have hD : va_D A [(h0, .inr (6, [.int bg, .ref h1, .ref h2, .ref h3, .ref h4, .ref h5, .ref h6, .ref h7, .int ln, .ref h8, .int mt, .int en, .int sx, .int y1, .int 1, .int tk, .ref h9])), (h1, .inl (cC, 6, .inl na)), (h2, .inl (cI, 2, .inl cu)), (h3, .inl (cI, 48, .inl pa)), (h4, .inl (cI, 48, .inl re)), (h5, .inl (cZ, 48, .inl cl)), (h6, .inl (cI, 48, .inl si)), (h7, .inl (cC, 288, .inl lt)), (h8, .inl (cC, 3000, .inl pg)), (h9, .inl (cC, 6, .inl rd))] := hD
      refine lv_iconst (v := 1) hx hb dd_M_plan_83 (by decide) ?_
      subst hQ
      obtain rfl := Option.some.inj hF
      exact W.zret (v := 1) hx hb hr rfl (fun t ht hW => ⟨⟨1, (), rfl, rfl, by rw [ht]; exact hP, va_K.moved hW.alike hK, hD⟩, hS.F ht⟩) hS.2.2 dd_M_plan_84
  unfold fn_M_plan at hF
  refine lv_aload_n hx hb dd_M_plan_0 rfl (lv_at hl 0 rfl) ?_
  refine lv_iload_n hx hb dd_M_plan_1 rfl (lv_at hl 1 rfl) ?_
  refine va_put (D := (dC, dI)) (ci := 6) (v := .int x1) (ty := .int) (C := cn_M) (T := tt_M) (N := 17) hx hb ht in_M ty_M tyok_M nm_M hown hK hP hD hS 0 rfl rfl 10 (by decide) (ht _ tw_3_51) (fun _ h9 => h9) rfl (by decide +kernel) rfl rfl (Nat.le_of_ble_eq_true rfl) dd_M_plan_2 (fun H_30 locs_31 hP hD hS => ?_)
  have hP : va_P (dC, dI) vwCl [(h0, .inr (6, [.int bg, .ref h1, .ref h2, .ref h3, .ref h4, .ref h5, .ref h6, .ref h7, .int ln, .ref h8, .int x1, .int en, .int sx, .int pl, .int ov, .int tk, .ref h9])), (h1, .inl (cC, 6, .inl na)), (h2, .inl (cI, 2, .inl cu)), (h3, .inl (cI, 48, .inl pa)), (h4, .inl (cI, 48, .inl re)), (h5, .inl (cZ, 48, .inl cl)), (h6, .inl (cI, 48, .inl si)), (h7, .inl (cC, 288, .inl lt)), (h8, .inl (cC, 3000, .inl pg)), (h9, .inl (cC, 6, .inl rd))] H_30 := hP
  have hD : va_D A [(h0, .inr (6, [.int bg, .ref h1, .ref h2, .ref h3, .ref h4, .ref h5, .ref h6, .ref h7, .int ln, .ref h8, .int x1, .int en, .int sx, .int pl, .int ov, .int tk, .ref h9])), (h1, .inl (cC, 6, .inl na)), (h2, .inl (cI, 2, .inl cu)), (h3, .inl (cI, 48, .inl pa)), (h4, .inl (cI, 48, .inl re)), (h5, .inl (cZ, 48, .inl cl)), (h6, .inl (cI, 48, .inl si)), (h7, .inl (cC, 288, .inl lt)), (h8, .inl (cC, 3000, .inl pg)), (h9, .inl (cC, 6, .inl rd))] := hD
  refine lv_aload_n hx hb dd_M_plan_5 rfl (lv_at hl 0 rfl) ?_
  refine lv_iload_n hx hb dd_M_plan_6 rfl (lv_at hl 2 rfl) ?_
  obtain ⟨o_7, ho_7, hF⟩ := jv_bi hF
  refine jv_mi (wr := []) (w1 := [(h0, .inr (6, [.int bg, .ref h1, .ref h2, .ref h3, .ref h4, .ref h5, .ref h6, .ref h7, .int ln, .ref h8, .int o_7.2, .int en, .int sx, .int pl, .int ov, .int tk, .ref h9])), (h1, .inl (cC, 6, .inl na)), (h2, .inl (cI, 2, .inl cu)), (h3, .inl (cI, 48, .inl pa)), (h4, .inl (cI, 48, .inl re)), (h5, .inl (cZ, 48, .inl cl)), (h6, .inl (cI, 48, .inl si)), (h7, .inl (cC, 288, .inl lt)), (h8, .inl (cC, 3000, .inl pg)), (h9, .inl (cC, 6, .inl rd))]) (va_runV (C := cn_M) (As := [.int x2]) (rest := []) ⟨hx, hb, hml, hown, ht⟩ (c_M_eatSpaces l dC dI cI cL cC cZ h0 h1 h2 h3 h4 h5 h6 h7 h8 h9 H_30.size bg ln x1 en sx pl ov tk na cu pa re cl si lt pg rd x2 _ ho_7) (cwV 1 ht (gi_V tw_3_229 tw_3_231 tw_p_32 tw_1_4 tw_3_232) rfl rfl rfl (by decide +kernel) ⟨Nat.le_of_ble_eq_true rfl, Nat.le_of_ble_eq_true rfl⟩) (jv_pv hK hP hD [0, 1, 2, 3, 4, 5, 6, 7, 8, 9] rfl (by decide) rfl (va_recv hK hP (ci := 6) (q0 := 0) rfl rfl)) rfl rfl hl.1 rfl (lv_room (Nat.le_of_ble_eq_true rfl)) dd_M_plan_7 ⟨Nat.le_of_ble_eq_true rfl, Nat.le_of_ble_eq_true rfl⟩) hP hD hS hA [0, 1, 2, 3, 4, 5, 6, 7, 8, 9] [] rfl rfl (by decide) (by decide) (fun H_32 locs_33 hP hD hS => ?_)
  have hP : va_P (dC, dI) vwCl [(h0, .inr (6, [.int bg, .ref h1, .ref h2, .ref h3, .ref h4, .ref h5, .ref h6, .ref h7, .int ln, .ref h8, .int o_7.2, .int en, .int sx, .int pl, .int ov, .int tk, .ref h9])), (h1, .inl (cC, 6, .inl na)), (h2, .inl (cI, 2, .inl cu)), (h3, .inl (cI, 48, .inl pa)), (h4, .inl (cI, 48, .inl re)), (h5, .inl (cZ, 48, .inl cl)), (h6, .inl (cI, 48, .inl si)), (h7, .inl (cC, 288, .inl lt)), (h8, .inl (cC, 3000, .inl pg)), (h9, .inl (cC, 6, .inl rd))] H_32 := hP.sub [0, 1, 2, 3, 4, 5, 6, 7, 8, 9] rfl
  have hD : va_D A [(h0, .inr (6, [.int bg, .ref h1, .ref h2, .ref h3, .ref h4, .ref h5, .ref h6, .ref h7, .int ln, .ref h8, .int o_7.2, .int en, .int sx, .int pl, .int ov, .int tk, .ref h9])), (h1, .inl (cC, 6, .inl na)), (h2, .inl (cI, 2, .inl cu)), (h3, .inl (cI, 48, .inl pa)), (h4, .inl (cI, 48, .inl re)), (h5, .inl (cZ, 48, .inl cl)), (h6, .inl (cI, 48, .inl si)), (h7, .inl (cC, 288, .inl lt)), (h8, .inl (cC, 3000, .inl pg)), (h9, .inl (cC, 6, .inl rd))] := hD.sub [0, 1, 2, 3, 4, 5, 6, 7, 8, 9] (by decide) rfl
  refine lv_if_eq (tgt := 49) hx hb dd_M_plan_10 (by decide) (fun c_34 => ?_) (fun c_34 => ?_)
  · have hF := jv_t c_34 hF
    refine lv_iconst (v := 0) hx hb dd_M_plan_49 (by decide) ?_
    subst hQ
    obtain rfl := Option.some.inj hF
    exact W.zret (v := 0) hx hb hr rfl (fun t ht hW => ⟨⟨0, (), rfl, rfl, by rw [ht]; exact hP, va_K.moved hW.alike hK, hD⟩, hS.F ht⟩) hS.2.2 dd_M_plan_50
  · have hF := jv_f c_34 hF
    refine lv_aload_n hx hb dd_M_plan_13 rfl (lv_at hl 0 rfl) ?_
    refine lv_bipush (v := 7) hx hb dd_M_plan_14 (by decide) ?_
    obtain ⟨o_16, ho_16, hF⟩ := jv_bi hF
    refine jv_mi (wr := []) (w1 := [(h0, .inr (6, [.int bg, .ref h1, .ref h2, .ref h3, .ref h4, .ref h5, .ref h6, .ref h7, .int ln, .ref h8, .int o_16.2, .int en, .int sx, .int pl, .int ov, .int tk, .ref h9])), (h1, .inl (cC, 6, .inl na)), (h2, .inl (cI, 2, .inl cu)), (h3, .inl (cI, 48, .inl pa)), (h4, .inl (cI, 48, .inl re)), (h5, .inl (cZ, 48, .inl cl)), (h6, .inl (cI, 48, .inl si)), (h7, .inl (cC, 288, .inl lt)), (h8, .inl (cC, 3000, .inl pg)), (h9, .inl (cC, 6, .inl rd))]) (va_runV (C := cn_M) (As := [.int 7]) (rest := []) ⟨hx, hb, hml, hown, ht⟩ (c_M_eat l dC dI cI cL cC cZ h0 h1 h2 h3 h4 h5 h6 h7 h8 h9 H_32.size bg ln o_7.2 en sx pl ov tk na cu pa re cl si lt pg rd 7 _ ho_16) (cwV 1 ht (gi_V tw_3_217 tw_3_219 tw_p_29 tw_1_4 tw_3_220) rfl rfl rfl (by decide +kernel) ⟨Nat.le_of_ble_eq_true rfl, Nat.le_of_ble_eq_true rfl⟩) (jv_pv hK hP hD [0, 1, 2, 3, 4, 5, 6, 7, 8, 9] rfl (by decide) rfl (va_recv hK hP (ci := 6) (q0 := 0) rfl rfl)) rfl rfl hl.1 rfl (lv_room (Nat.le_of_ble_eq_true rfl)) dd_M_plan_16 ⟨Nat.le_of_ble_eq_true rfl, Nat.le_of_ble_eq_true rfl⟩) hP hD hS hA [0, 1, 2, 3, 4, 5, 6, 7, 8, 9] [] rfl rfl (by decide) (by decide) (fun H_35 locs_36 hP hD hS => ?_)
    have hP : va_P (dC, dI) vwCl [(h0, .inr (6, [.int bg, .ref h1, .ref h2, .ref h3, .ref h4, .ref h5, .ref h6, .ref h7, .int ln, .ref h8, .int o_16.2, .int en, .int sx, .int pl, .int ov, .int tk, .ref h9])), (h1, .inl (cC, 6, .inl na)), (h2, .inl (cI, 2, .inl cu)), (h3, .inl (cI, 48, .inl pa)), (h4, .inl (cI, 48, .inl re)), (h5, .inl (cZ, 48, .inl cl)), (h6, .inl (cI, 48, .inl si)), (h7, .inl (cC, 288, .inl lt)), (h8, .inl (cC, 3000, .inl pg)), (h9, .inl (cC, 6, .inl rd))] H_35 := hP.sub [0, 1, 2, 3, 4, 5, 6, 7, 8, 9] rfl
    have hD : va_D A [(h0, .inr (6, [.int bg, .ref h1, .ref h2, .ref h3, .ref h4, .ref h5, .ref h6, .ref h7, .int ln, .ref h8, .int o_16.2, .int en, .int sx, .int pl, .int ov, .int tk, .ref h9])), (h1, .inl (cC, 6, .inl na)), (h2, .inl (cI, 2, .inl cu)), (h3, .inl (cI, 48, .inl pa)), (h4, .inl (cI, 48, .inl re)), (h5, .inl (cZ, 48, .inl cl)), (h6, .inl (cI, 48, .inl si)), (h7, .inl (cC, 288, .inl lt)), (h8, .inl (cC, 3000, .inl pg)), (h9, .inl (cC, 6, .inl rd))] := hD.sub [0, 1, 2, 3, 4, 5, 6, 7, 8, 9] (by decide) rfl
    refine lv_if_eq (tgt := 49) hx hb dd_M_plan_19 (by decide) (fun c_37 => ?_) (fun c_37 => ?_)
    · have hF := jv_t c_37 hF
      refine lv_iconst (v := 0) hx hb dd_M_plan_49 (by decide) ?_
      subst hQ
      obtain rfl := Option.some.inj hF
      exact W.zret (v := 0) hx hb hr rfl (fun t ht hW => ⟨⟨0, (), rfl, rfl, by rw [ht]; exact hP, va_K.moved hW.alike hK, hD⟩, hS.F ht⟩) hS.2.2 dd_M_plan_50
    · have hF := jv_f c_37 hF
      refine lv_aload_n hx hb dd_M_plan_22 rfl (lv_at hl 0 rfl) ?_
      refine lv_aload_n hx hb dd_M_plan_23 rfl (lv_at hl 0 rfl) ?_
      refine lv_iconst (v := 1) hx hb dd_M_plan_24 (by decide) ?_
      refine lv_aload_n hx hb dd_M_plan_25 rfl (lv_at hl 0 rfl) ?_
      refine va_get (D := (dC, dI)) (ci := 6) (v := .int sx) (C := cn_M) (T := tt_M) (N := 17) hx hb ht in_M hown hK hP 0 rfl rfl 12 (by decide) (ht _ tw_3_53) (fun _ h9 => h9) rfl dd_M_plan_26 ?_
      obtain ⟨o_29, ho_29, hF⟩ := jv_bi hF
      refine jv_ci (va_runV (C := cn_M) (As := [.int 1, .int sx]) (rest := [.ref h0]) ⟨hx, hb, hml, hown, ht⟩ (c_M_rowSize l dC dI cI cL cC cZ h0 h1 h2 h3 h4 h5 h6 h7 h8 h9 H_35.size bg ln o_16.2 en sx pl ov tk na cu pa re cl si lt pg rd 1 sx _ ho_29) (cwV 2 ht (gi_V tw_3_193 tw_3_195 tw_p_24 tw_1_4 tw_3_196) rfl rfl rfl (by decide +kernel) ⟨Nat.le_of_ble_eq_true rfl, Nat.le_of_ble_eq_true rfl⟩) (jv_pv hK hP hD [0, 1, 2, 3, 4, 5, 6, 7, 8, 9] rfl (by decide) rfl (va_recv hK hP (ci := 6) (q0 := 0) rfl rfl)) rfl rfl hl.1 rfl (lv_room (Nat.le_of_ble_eq_true rfl)) dd_M_plan_29 ⟨Nat.le_of_ble_eq_true rfl, Nat.le_of_ble_eq_true rfl⟩) ?_
      obtain ⟨o_32, ho_32, hF⟩ := jv_bi hF
      refine jv_mi (wr := []) (w1 := [(h0, .inr (6, [.int bg, .ref h1, .ref h2, .ref h3, .ref h4, .ref h5, .ref h6, .ref h7, .int ln, .ref h8, .int o_32.2, .int en, .int sx, .int pl, .int ov, .int tk, .ref h9])), (h1, .inl (cC, 6, .inl na)), (h2, .inl (cI, 2, .inl cu)), (h3, .inl (cI, 48, .inl pa)), (h4, .inl (cI, 48, .inl re)), (h5, .inl (cZ, 48, .inl cl)), (h6, .inl (cI, 48, .inl si)), (h7, .inl (cC, 288, .inl lt)), (h8, .inl (cC, 3000, .inl pg)), (h9, .inl (cC, 6, .inl rd))]) (va_runV (C := cn_M) (As := [.int o_29]) (rest := []) ⟨hx, hb, hml, hown, ht⟩ (c_M_eatNumber l dC dI cI cL cC cZ h0 h1 h2 h3 h4 h5 h6 h7 h8 h9 H_35.size bg ln o_16.2 en sx pl ov tk na cu pa re cl si lt pg rd o_29 _ ho_32) (cwV 1 ht (gi_V tw_3_233 tw_3_235 tw_p_33 tw_1_4 tw_3_236) rfl rfl rfl (by decide +kernel) ⟨Nat.le_of_ble_eq_true rfl, Nat.le_of_ble_eq_true rfl⟩) (jv_pv hK hP hD [0, 1, 2, 3, 4, 5, 6, 7, 8, 9] rfl (by decide) rfl (va_recv hK hP (ci := 6) (q0 := 0) rfl rfl)) rfl rfl hl.1 rfl (lv_room (Nat.le_of_ble_eq_true rfl)) dd_M_plan_32 ⟨Nat.le_of_ble_eq_true rfl, Nat.le_of_ble_eq_true rfl⟩) hP hD hS hA [0, 1, 2, 3, 4, 5, 6, 7, 8, 9] [] rfl rfl (by decide) (by decide) (fun H_38 locs_39 hP hD hS => ?_)
      have hP : va_P (dC, dI) vwCl [(h0, .inr (6, [.int bg, .ref h1, .ref h2, .ref h3, .ref h4, .ref h5, .ref h6, .ref h7, .int ln, .ref h8, .int o_32.2, .int en, .int sx, .int pl, .int ov, .int tk, .ref h9])), (h1, .inl (cC, 6, .inl na)), (h2, .inl (cI, 2, .inl cu)), (h3, .inl (cI, 48, .inl pa)), (h4, .inl (cI, 48, .inl re)), (h5, .inl (cZ, 48, .inl cl)), (h6, .inl (cI, 48, .inl si)), (h7, .inl (cC, 288, .inl lt)), (h8, .inl (cC, 3000, .inl pg)), (h9, .inl (cC, 6, .inl rd))] H_38 := hP.sub [0, 1, 2, 3, 4, 5, 6, 7, 8, 9] rfl
      have hD : va_D A [(h0, .inr (6, [.int bg, .ref h1, .ref h2, .ref h3, .ref h4, .ref h5, .ref h6, .ref h7, .int ln, .ref h8, .int o_32.2, .int en, .int sx, .int pl, .int ov, .int tk, .ref h9])), (h1, .inl (cC, 6, .inl na)), (h2, .inl (cI, 2, .inl cu)), (h3, .inl (cI, 48, .inl pa)), (h4, .inl (cI, 48, .inl re)), (h5, .inl (cZ, 48, .inl cl)), (h6, .inl (cI, 48, .inl si)), (h7, .inl (cC, 288, .inl lt)), (h8, .inl (cC, 3000, .inl pg)), (h9, .inl (cC, 6, .inl rd))] := hD.sub [0, 1, 2, 3, 4, 5, 6, 7, 8, 9] (by decide) rfl
      refine lv_if_eq (tgt := 49) hx hb dd_M_plan_35 (by decide) (fun c_40 => ?_) (fun c_40 => ?_)
      · have hF := jv_t c_40 hF
        refine lv_iconst (v := 0) hx hb dd_M_plan_49 (by decide) ?_
        subst hQ
        obtain rfl := Option.some.inj hF
        exact W.zret (v := 0) hx hb hr rfl (fun t ht hW => ⟨⟨0, (), rfl, rfl, by rw [ht]; exact hP, va_K.moved hW.alike hK, hD⟩, hS.F ht⟩) hS.2.2 dd_M_plan_50
      · have hF := jv_f c_40 hF
        refine lv_aload_n hx hb dd_M_plan_38 rfl (lv_at hl 0 rfl) ?_
        refine va_get (D := (dC, dI)) (ci := 6) (v := .int o_32.2) (C := cn_M) (T := tt_M) (N := 17) hx hb ht in_M hown hK hP 0 rfl rfl 10 (by decide) (ht _ tw_3_51) (fun _ h9 => h9) rfl dd_M_plan_39 ?_
        refine lv_aload_n hx hb dd_M_plan_42 rfl (lv_at hl 0 rfl) ?_
        refine va_get (D := (dC, dI)) (ci := 6) (v := .int en) (C := cn_M) (T := tt_M) (N := 17) hx hb ht in_M hown hK hP 0 rfl rfl 11 (by decide) (ht _ tw_3_52) (fun _ h9 => h9) rfl dd_M_plan_43 ?_
        refine lv_icmp_eq (tgt := 51) hx hb dd_M_plan_46 (by decide) (fun c_41 => ?_) (fun c_41 => ?_)
        · have hF := jv_t c_41 hF
          refine lv_aload_n hx hb dd_M_plan_51 rfl (lv_at hl 0 rfl) ?_
          refine lv_aload_n hx hb dd_M_plan_52 rfl (lv_at hl 0 rfl) ?_
          refine va_get (D := (dC, dI)) (ci := 6) (v := .int sx) (C := cn_M) (T := tt_M) (N := 17) hx hb ht in_M hown hK hP 0 rfl rfl 12 (by decide) (ht _ tw_3_53) (fun _ h9 => h9) rfl dd_M_plan_53 ?_
          refine lv_if_lt (tgt := 63) hx hb dd_M_plan_56 (by decide) (fun c_42 => ?_) (fun c_42 => ?_)
          · have hF := jv_t c_42 hF
            refine lv_iconst (v := 0) hx hb dd_M_plan_63 (by decide) ?_
            exact bl64 o_32.2 pl ov 0 hF H_38 locs_39 hP hD hS ls (lv_sub hl [0] rfl)
          · have hF := jv_f c_42 hF
            refine lv_iconst (v := 1) hx hb dd_M_plan_59 (by decide) ?_
            refine lv_goto (tgt := 64) hx hb dd_M_plan_60 (by decide) ?_
            exact bl64 o_32.2 pl ov 1 hF H_38 locs_39 hP hD hS ls (lv_sub hl [0] rfl)
        · have hF := jv_f c_41 hF
          refine lv_iconst (v := 0) hx hb dd_M_plan_49 (by decide) ?_
          subst hQ
          obtain rfl := Option.some.inj hF
          exact W.zret (v := 0) hx hb hr rfl (fun t ht hW => ⟨⟨0, (), rfl, rfl, by rw [ht]; exact hP, va_K.moved hW.alike hK, hD⟩, hS.F ht⟩) hS.2.2 dd_M_plan_50
set_option maxHeartbeats 40000000 in
set_option maxRecDepth 100000 in
theorem c_M_bail (l : Launch) (dC : Nat → ClassId) (dI : Nat → Nat → Nat) (cI cL cC cZ : ClassId) (h0 h1 h2 h3 h4 h5 h6 h7 h8 h9 : Nat) (sz : Nat) (bg : Int32) (ln : Int32) (mt : Int32) (en : Int32) (sx : Int32) (pl : Int32) (ov : Int32) (tk : Int32) (na : Nat → Int32) (cu : Nat → Int32) (pa : Nat → Int32) (re : Nat → Int32) (cl : Nat → Int32) (si : Nat → Int32) (lt : Nat → Int32) (pg : Nat → Int32) (rd : Nat → Int32) (x1 : Int32) (out : Int32 × Int32 × Int32) (hF : fn_M_bail en sx pg mt ov x1 = some out) : Met l yy_M_bail ws_M_bail { frames := 3, cells := 0, slots := 0, locals := 67 } (mP_ (dC, dI) (tk_ cI cL cC cZ) [(h0, .inr (6, [.int bg, .ref h1, .ref h2, .ref h3, .ref h4, .ref h5, .ref h6, .ref h7, .int ln, .ref h8, .int mt, .int en, .int sx, .int pl, .int ov, .int tk, .ref h9])), (h1, .inl (cC, 6, .inl na)), (h2, .inl (cI, 2, .inl cu)), (h3, .inl (cI, 48, .inl pa)), (h4, .inl (cI, 48, .inl re)), (h5, .inl (cZ, 48, .inl cl)), (h6, .inl (cI, 48, .inl si)), (h7, .inl (cC, 288, .inl lt)), (h8, .inl (cC, 3000, .inl pg)), (h9, .inl (cC, 6, .inl rd))] sz [.ref h0, .int x1]) (va_Qi (fun r (_ : Unit) => r = out.1) (mB_ (dC, dI) (tk_ cI cL cC cZ) [(h0, .inr (6, [.int bg, .ref h1, .ref h2, .ref h3, .ref h4, .ref h5, .ref h6, .ref h7, .int ln, .ref h8, .int out.2.1, .int en, .int sx, .int pl, .int out.2.2, .int tk, .ref h9])), (h1, .inl (cC, 6, .inl na)), (h2, .inl (cI, 2, .inl cu)), (h3, .inl (cI, 48, .inl pa)), (h4, .inl (cI, 48, .inl re)), (h5, .inl (cZ, 48, .inl cl)), (h6, .inl (cI, 48, .inl si)), (h7, .inl (cC, 288, .inl lt)), (h8, .inl (cC, 3000, .inl pg)), (h9, .inl (cC, 6, .inl rd))] (va_A [(h0, .inr (6, [.int bg, .ref h1, .ref h2, .ref h3, .ref h4, .ref h5, .ref h6, .ref h7, .int ln, .ref h8, .int mt, .int en, .int sx, .int pl, .int ov, .int tk, .ref h9])), (h1, .inl (cC, 6, .inl na)), (h2, .inl (cI, 2, .inl cu)), (h3, .inl (cI, 48, .inl pa)), (h4, .inl (cI, 48, .inl re)), (h5, .inl (cZ, 48, .inl cl)), (h6, .inl (cI, 48, .inl si)), (h7, .inl (cC, 288, .inl lt)), (h8, .inl (cC, 3000, .inl pg)), (h9, .inl (cC, 6, .inl rd))] sz)) (va_A [(h0, .inr (6, [.int bg, .ref h1, .ref h2, .ref h3, .ref h4, .ref h5, .ref h6, .ref h7, .int ln, .ref h8, .int mt, .int en, .int sx, .int pl, .int ov, .int tk, .ref h9])), (h1, .inl (cC, 6, .inl na)), (h2, .inl (cI, 2, .inl cu)), (h3, .inl (cI, 48, .inl pa)), (h4, .inl (cI, 48, .inl re)), (h5, .inl (cZ, 48, .inl cl)), (h6, .inl (cI, 48, .inl si)), (h7, .inl (cC, 288, .inl lt)), (h8, .inl (cC, 3000, .inl pg)), (h9, .inl (cC, 6, .inl rd))] sz)) 0 0 (va_A [(h0, .inr (6, [.int bg, .ref h1, .ref h2, .ref h3, .ref h4, .ref h5, .ref h6, .ref h7, .int ln, .ref h8, .int mt, .int en, .int sx, .int pl, .int ov, .int tk, .ref h9])), (h1, .inl (cC, 6, .inl na)), (h2, .inl (cI, 2, .inl cu)), (h3, .inl (cI, 48, .inl pa)), (h4, .inl (cI, 48, .inl re)), (h5, .inl (cZ, 48, .inl cl)), (h6, .inl (cI, 48, .inl si)), (h7, .inl (cC, 288, .inl lt)), (h8, .inl (cC, 3000, .inl pg)), (h9, .inl (cC, 6, .inl rd))] sz) := by
  refine Met.ofW (cc := cc_M_bail) (maxL := 2) (ret := (some .boolean)) (by decide) rfl ?_
  intro p e s m args below meth c s₁ B hml hv
  obtain ⟨hargs, hsz, hP, hK, hD0⟩ := hv
  have hx := B.exec
  have hb := B.bytes
  have hr := B.returns
  have hts := atoms_spec (ws := ws_M_bail) B.pre
  have ht : ∀ w ∈ TB_, w.before args s = true := fun w h => hts w (List.mem_cons_of_mem _ h)
  have hown : s.vm.findClass cn_M = some m.cls := findClass_of_methodNamed B.named
  have hlocks := B.notSynchronized
  subst hsz
  have hD := hD0.self (sz := s.heap.size)
  generalize hAe : va_A [(h0, .inr (6, [.int bg, .ref h1, .ref h2, .ref h3, .ref h4, .ref h5, .ref h6, .ref h7, .int ln, .ref h8, .int mt, .int en, .int sx, .int pl, .int ov, .int tk, .ref h9])), (h1, .inl (cC, 6, .inl na)), (h2, .inl (cI, 2, .inl cu)), (h3, .inl (cI, 48, .inl pa)), (h4, .inl (cI, 48, .inl re)), (h5, .inl (cZ, 48, .inl cl)), (h6, .inl (cI, 48, .inl si)), (h7, .inl (cC, 288, .inl lt)), (h8, .inl (cC, 3000, .inl pg)), (h9, .inl (cC, 6, .inl rd))] s.heap.size = A at hD ⊢
  have hA : ∀ q : Nat, s.heap.size ≤ q → A q := fun q h => by rw [← hAe]; exact Or.inr h
  have hS : va_S A s.heap s.heap [] := va_S.rf
  have hP : va_P (dC, dI) vwCl [(h0, .inr (6, [.int bg, .ref h1, .ref h2, .ref h3, .ref h4, .ref h5, .ref h6, .ref h7, .int ln, .ref h8, .int mt, .int en, .int sx, .int pl, .int ov, .int tk, .ref h9])), (h1, .inl (cC, 6, .inl na)), (h2, .inl (cI, 2, .inl cu)), (h3, .inl (cI, 48, .inl pa)), (h4, .inl (cI, 48, .inl re)), (h5, .inl (cZ, 48, .inl cl)), (h6, .inl (cI, 48, .inl si)), (h7, .inl (cC, 288, .inl lt)), (h8, .inl (cC, 3000, .inl pg)), (h9, .inl (cC, 6, .inl rd))] s.heap := hP
  have hl := lv_entry [.ref h0, .int x1] (n := 2) (Nat.le_of_ble_eq_true rfl)
  have he : entryFrame m args 2 = _ := (congrArg (fun a => entryFrame m a 2) hargs).trans (lg_entry_eq m [.ref h0, .int x1] 2)
  rw [he]
  generalize (lg_sl [.ref h0, .int x1] ++ List.replicate (2 - (lg_sl [.ref h0, .int x1]).length) Slot.unset).toArray = ls at hl ⊢
  have hl : lv_has ls 2 [(0, .ref h0), (1, .int x1)] := hl
  generalize hQ : MQ below _ args s _ _ _ = Q
  unfold fn_M_bail at hF
  refine lv_aload_n hx hb dd_M_bail_0 rfl (lv_at hl 0 rfl) ?_
  refine lv_iload_n hx hb dd_M_bail_1 rfl (lv_at hl 1 rfl) ?_
  refine va_put (D := (dC, dI)) (ci := 6) (v := .int x1) (ty := .int) (C := cn_M) (T := tt_M) (N := 17) hx hb ht in_M ty_M tyok_M nm_M hown hK hP hD hS 0 rfl rfl 10 (by decide) (ht _ tw_3_51) (fun _ h9 => h9) rfl (by decide +kernel) rfl rfl (Nat.le_of_ble_eq_true rfl) dd_M_bail_2 (fun H_16 locs_17 hP hD hS => ?_)
  have hP : va_P (dC, dI) vwCl [(h0, .inr (6, [.int bg, .ref h1, .ref h2, .ref h3, .ref h4, .ref h5, .ref h6, .ref h7, .int ln, .ref h8, .int x1, .int en, .int sx, .int pl, .int ov, .int tk, .ref h9])), (h1, .inl (cC, 6, .inl na)), (h2, .inl (cI, 2, .inl cu)), (h3, .inl (cI, 48, .inl pa)), (h4, .inl (cI, 48, .inl re)), (h5, .inl (cZ, 48, .inl cl)), (h6, .inl (cI, 48, .inl si)), (h7, .inl (cC, 288, .inl lt)), (h8, .inl (cC, 3000, .inl pg)), (h9, .inl (cC, 6, .inl rd))] H_16 := hP
  have hD : va_D A [(h0, .inr (6, [.int bg, .ref h1, .ref h2, .ref h3, .ref h4, .ref h5, .ref h6, .ref h7, .int ln, .ref h8, .int x1, .int en, .int sx, .int pl, .int ov, .int tk, .ref h9])), (h1, .inl (cC, 6, .inl na)), (h2, .inl (cI, 2, .inl cu)), (h3, .inl (cI, 48, .inl pa)), (h4, .inl (cI, 48, .inl re)), (h5, .inl (cZ, 48, .inl cl)), (h6, .inl (cI, 48, .inl si)), (h7, .inl (cC, 288, .inl lt)), (h8, .inl (cC, 3000, .inl pg)), (h9, .inl (cC, 6, .inl rd))] := hD
  refine lv_aload_n hx hb dd_M_bail_5 rfl (lv_at hl 0 rfl) ?_
  refine lv_aload_n hx hb dd_M_bail_6 rfl (lv_at hl 0 rfl) ?_
  refine va_get (D := (dC, dI)) (ci := 6) (v := .int sx) (C := cn_M) (T := tt_M) (N := 17) hx hb ht in_M hown hK hP 0 rfl rfl 12 (by decide) (ht _ tw_3_53) (fun _ h9 => h9) rfl dd_M_bail_7 ?_
  refine lv_if_lt (tgt := 37) hx hb dd_M_bail_10 (by decide) (fun c_18 => ?_) (fun c_18 => ?_)
  · have hF := jv_t c_18 hF
    refine lv_iconst (v := 0) hx hb dd_M_bail_37 (by decide) ?_
    refine va_put (D := (dC, dI)) (ci := 6) (v := .int 0) (ty := .boolean) (C := cn_M) (T := tt_M) (N := 17) hx hb ht in_M ty_M tyok_M nm_M hown hK hP hD hS 0 rfl rfl 14 (by decide) (ht _ tw_3_55) (fun _ h9 => h9) rfl (by decide +kernel) rfl rfl (Nat.le_of_ble_eq_true rfl) dd_M_bail_38 (fun H_19 locs_20 hP hD hS => ?_)
    have hP : va_P (dC, dI) vwCl [(h0, .inr (6, [.int bg, .ref h1, .ref h2, .ref h3, .ref h4, .ref h5, .ref h6, .ref h7, .int ln, .ref h8, .int x1, .int en, .int sx, .int pl, .int 0, .int tk, .ref h9])), (h1, .inl (cC, 6, .inl na)), (h2, .inl (cI, 2, .inl cu)), (h3, .inl (cI, 48, .inl pa)), (h4, .inl (cI, 48, .inl re)), (h5, .inl (cZ, 48, .inl cl)), (h6, .inl (cI, 48, .inl si)), (h7, .inl (cC, 288, .inl lt)), (h8, .inl (cC, 3000, .inl pg)), (h9, .inl (cC, 6, .inl rd))] H_19 := hP
    have hD : va_D A [(h0, .inr (6, [.int bg, .ref h1, .ref h2, .ref h3, .ref h4, .ref h5, .ref h6, .ref h7, .int ln, .ref h8, .int x1, .int en, .int sx, .int pl, .int 0, .int tk, .ref h9])), (h1, .inl (cC, 6, .inl na)), (h2, .inl (cI, 2, .inl cu)), (h3, .inl (cI, 48, .inl pa)), (h4, .inl (cI, 48, .inl re)), (h5, .inl (cZ, 48, .inl cl)), (h6, .inl (cI, 48, .inl si)), (h7, .inl (cC, 288, .inl lt)), (h8, .inl (cC, 3000, .inl pg)), (h9, .inl (cC, 6, .inl rd))] := hD
    refine lv_aload_n hx hb dd_M_bail_41 rfl (lv_at hl 0 rfl) ?_
    refine va_get (D := (dC, dI)) (ci := 6) (v := .int 0) (C := cn_M) (T := tt_M) (N := 17) hx hb ht in_M hown hK hP 0 rfl rfl 14 (by decide) (ht _ tw_3_55) (fun _ h9 => h9) rfl dd_M_bail_42 ?_
    subst hQ
    obtain rfl := Option.some.inj hF
    exact W.zret (v := 0) hx hb hr rfl (fun t ht hW => ⟨⟨0, (), rfl, rfl, by rw [ht]; exact hP, va_K.moved hW.alike hK, hD⟩, hS.F ht⟩) hS.2.2 dd_M_bail_45
  · have hF := jv_f c_18 hF
    refine lv_aload_n hx hb dd_M_bail_13 rfl (lv_at hl 0 rfl) ?_
    refine lv_bipush (v := 8) hx hb dd_M_bail_14 (by decide) ?_
    obtain ⟨o_16, ho_16, hF⟩ := jv_bi hF
    refine jv_mi (wr := []) (w1 := [(h0, .inr (6, [.int bg, .ref h1, .ref h2, .ref h3, .ref h4, .ref h5, .ref h6, .ref h7, .int ln, .ref h8, .int o_16.2, .int en, .int sx, .int pl, .int ov, .int tk, .ref h9])), (h1, .inl (cC, 6, .inl na)), (h2, .inl (cI, 2, .inl cu)), (h3, .inl (cI, 48, .inl pa)), (h4, .inl (cI, 48, .inl re)), (h5, .inl (cZ, 48, .inl cl)), (h6, .inl (cI, 48, .inl si)), (h7, .inl (cC, 288, .inl lt)), (h8, .inl (cC, 3000, .inl pg)), (h9, .inl (cC, 6, .inl rd))]) (va_runV (C := cn_M) (As := [.int 8]) (rest := [.ref h0]) ⟨hx, hb, hml, hown, ht⟩ (c_M_eat l dC dI cI cL cC cZ h0 h1 h2 h3 h4 h5 h6 h7 h8 h9 H_16.size bg ln x1 en sx pl ov tk na cu pa re cl si lt pg rd 8 _ ho_16) (cwV 1 ht (gi_V tw_3_217 tw_3_219 tw_p_29 tw_1_4 tw_3_220) rfl rfl rfl (by decide +kernel) ⟨Nat.le_of_ble_eq_true rfl, Nat.le_of_ble_eq_true rfl⟩) (jv_pv hK hP hD [0, 1, 2, 3, 4, 5, 6, 7, 8, 9] rfl (by decide) rfl (va_recv hK hP (ci := 6) (q0 := 0) rfl rfl)) rfl rfl hl.1 rfl (lv_room (Nat.le_of_ble_eq_true rfl)) dd_M_bail_16 ⟨Nat.le_of_ble_eq_true rfl, Nat.le_of_ble_eq_true rfl⟩) hP hD hS hA [0, 1, 2, 3, 4, 5, 6, 7, 8, 9] [] rfl rfl (by decide) (by decide) (fun H_21 locs_22 hP hD hS => ?_)
    have hP : va_P (dC, dI) vwCl [(h0, .inr (6, [.int bg, .ref h1, .ref h2, .ref h3, .ref h4, .ref h5, .ref h6, .ref h7, .int ln, .ref h8, .int o_16.2, .int en, .int sx, .int pl, .int ov, .int tk, .ref h9])), (h1, .inl (cC, 6, .inl na)), (h2, .inl (cI, 2, .inl cu)), (h3, .inl (cI, 48, .inl pa)), (h4, .inl (cI, 48, .inl re)), (h5, .inl (cZ, 48, .inl cl)), (h6, .inl (cI, 48, .inl si)), (h7, .inl (cC, 288, .inl lt)), (h8, .inl (cC, 3000, .inl pg)), (h9, .inl (cC, 6, .inl rd))] H_21 := hP.sub [0, 1, 2, 3, 4, 5, 6, 7, 8, 9] rfl
    have hD : va_D A [(h0, .inr (6, [.int bg, .ref h1, .ref h2, .ref h3, .ref h4, .ref h5, .ref h6, .ref h7, .int ln, .ref h8, .int o_16.2, .int en, .int sx, .int pl, .int ov, .int tk, .ref h9])), (h1, .inl (cC, 6, .inl na)), (h2, .inl (cI, 2, .inl cu)), (h3, .inl (cI, 48, .inl pa)), (h4, .inl (cI, 48, .inl re)), (h5, .inl (cZ, 48, .inl cl)), (h6, .inl (cI, 48, .inl si)), (h7, .inl (cC, 288, .inl lt)), (h8, .inl (cC, 3000, .inl pg)), (h9, .inl (cC, 6, .inl rd))] := hD.sub [0, 1, 2, 3, 4, 5, 6, 7, 8, 9] (by decide) rfl
    refine lv_if_eq (tgt := 37) hx hb dd_M_bail_19 (by decide) (fun c_23 => ?_) (fun c_23 => ?_)
    · have hF := jv_t c_23 hF
      refine lv_iconst (v := 0) hx hb dd_M_bail_37 (by decide) ?_
      refine va_put (D := (dC, dI)) (ci := 6) (v := .int 0) (ty := .boolean) (C := cn_M) (T := tt_M) (N := 17) hx hb ht in_M ty_M tyok_M nm_M hown hK hP hD hS 0 rfl rfl 14 (by decide) (ht _ tw_3_55) (fun _ h9 => h9) rfl (by decide +kernel) rfl rfl (Nat.le_of_ble_eq_true rfl) dd_M_bail_38 (fun H_24 locs_25 hP hD hS => ?_)
      have hP : va_P (dC, dI) vwCl [(h0, .inr (6, [.int bg, .ref h1, .ref h2, .ref h3, .ref h4, .ref h5, .ref h6, .ref h7, .int ln, .ref h8, .int o_16.2, .int en, .int sx, .int pl, .int 0, .int tk, .ref h9])), (h1, .inl (cC, 6, .inl na)), (h2, .inl (cI, 2, .inl cu)), (h3, .inl (cI, 48, .inl pa)), (h4, .inl (cI, 48, .inl re)), (h5, .inl (cZ, 48, .inl cl)), (h6, .inl (cI, 48, .inl si)), (h7, .inl (cC, 288, .inl lt)), (h8, .inl (cC, 3000, .inl pg)), (h9, .inl (cC, 6, .inl rd))] H_24 := hP
      have hD : va_D A [(h0, .inr (6, [.int bg, .ref h1, .ref h2, .ref h3, .ref h4, .ref h5, .ref h6, .ref h7, .int ln, .ref h8, .int o_16.2, .int en, .int sx, .int pl, .int 0, .int tk, .ref h9])), (h1, .inl (cC, 6, .inl na)), (h2, .inl (cI, 2, .inl cu)), (h3, .inl (cI, 48, .inl pa)), (h4, .inl (cI, 48, .inl re)), (h5, .inl (cZ, 48, .inl cl)), (h6, .inl (cI, 48, .inl si)), (h7, .inl (cC, 288, .inl lt)), (h8, .inl (cC, 3000, .inl pg)), (h9, .inl (cC, 6, .inl rd))] := hD
      refine lv_aload_n hx hb dd_M_bail_41 rfl (lv_at hl 0 rfl) ?_
      refine va_get (D := (dC, dI)) (ci := 6) (v := .int 0) (C := cn_M) (T := tt_M) (N := 17) hx hb ht in_M hown hK hP 0 rfl rfl 14 (by decide) (ht _ tw_3_55) (fun _ h9 => h9) rfl dd_M_bail_42 ?_
      subst hQ
      obtain rfl := Option.some.inj hF
      exact W.zret (v := 0) hx hb hr rfl (fun t ht hW => ⟨⟨0, (), rfl, rfl, by rw [ht]; exact hP, va_K.moved hW.alike hK, hD⟩, hS.F ht⟩) hS.2.2 dd_M_bail_45
    · have hF := jv_f c_23 hF
      refine lv_aload_n hx hb dd_M_bail_22 rfl (lv_at hl 0 rfl) ?_
      refine va_get (D := (dC, dI)) (ci := 6) (v := .int o_16.2) (C := cn_M) (T := tt_M) (N := 17) hx hb ht in_M hown hK hP 0 rfl rfl 10 (by decide) (ht _ tw_3_51) (fun _ h9 => h9) rfl dd_M_bail_23 ?_
      refine lv_aload_n hx hb dd_M_bail_26 rfl (lv_at hl 0 rfl) ?_
      refine va_get (D := (dC, dI)) (ci := 6) (v := .int en) (C := cn_M) (T := tt_M) (N := 17) hx hb ht in_M hown hK hP 0 rfl rfl 11 (by decide) (ht _ tw_3_52) (fun _ h9 => h9) rfl dd_M_bail_27 ?_
      refine lv_icmp_ne (tgt := 37) hx hb dd_M_bail_30 (by decide) (fun c_26 => ?_) (fun c_26 => ?_)
      · have hF := jv_f c_26 hF
        refine lv_iconst (v := 0) hx hb dd_M_bail_37 (by decide) ?_
        refine va_put (D := (dC, dI)) (ci := 6) (v := .int 0) (ty := .boolean) (C := cn_M) (T := tt_M) (N := 17) hx hb ht in_M ty_M tyok_M nm_M hown hK hP hD hS 0 rfl rfl 14 (by decide) (ht _ tw_3_55) (fun _ h9 => h9) rfl (by decide +kernel) rfl rfl (Nat.le_of_ble_eq_true rfl) dd_M_bail_38 (fun H_27 locs_28 hP hD hS => ?_)
        have hP : va_P (dC, dI) vwCl [(h0, .inr (6, [.int bg, .ref h1, .ref h2, .ref h3, .ref h4, .ref h5, .ref h6, .ref h7, .int ln, .ref h8, .int o_16.2, .int en, .int sx, .int pl, .int 0, .int tk, .ref h9])), (h1, .inl (cC, 6, .inl na)), (h2, .inl (cI, 2, .inl cu)), (h3, .inl (cI, 48, .inl pa)), (h4, .inl (cI, 48, .inl re)), (h5, .inl (cZ, 48, .inl cl)), (h6, .inl (cI, 48, .inl si)), (h7, .inl (cC, 288, .inl lt)), (h8, .inl (cC, 3000, .inl pg)), (h9, .inl (cC, 6, .inl rd))] H_27 := hP
        have hD : va_D A [(h0, .inr (6, [.int bg, .ref h1, .ref h2, .ref h3, .ref h4, .ref h5, .ref h6, .ref h7, .int ln, .ref h8, .int o_16.2, .int en, .int sx, .int pl, .int 0, .int tk, .ref h9])), (h1, .inl (cC, 6, .inl na)), (h2, .inl (cI, 2, .inl cu)), (h3, .inl (cI, 48, .inl pa)), (h4, .inl (cI, 48, .inl re)), (h5, .inl (cZ, 48, .inl cl)), (h6, .inl (cI, 48, .inl si)), (h7, .inl (cC, 288, .inl lt)), (h8, .inl (cC, 3000, .inl pg)), (h9, .inl (cC, 6, .inl rd))] := hD
        refine lv_aload_n hx hb dd_M_bail_41 rfl (lv_at hl 0 rfl) ?_
        refine va_get (D := (dC, dI)) (ci := 6) (v := .int 0) (C := cn_M) (T := tt_M) (N := 17) hx hb ht in_M hown hK hP 0 rfl rfl 14 (by decide) (ht _ tw_3_55) (fun _ h9 => h9) rfl dd_M_bail_42 ?_
        subst hQ
        obtain rfl := Option.some.inj hF
        exact W.zret (v := 0) hx hb hr rfl (fun t ht hW => ⟨⟨0, (), rfl, rfl, by rw [ht]; exact hP, va_K.moved hW.alike hK, hD⟩, hS.F ht⟩) hS.2.2 dd_M_bail_45
      · have hF := jv_t c_26 hF
        refine lv_iconst (v := 1) hx hb dd_M_bail_33 (by decide) ?_
        refine lv_goto (tgt := 38) hx hb dd_M_bail_34 (by decide) ?_
        refine va_put (D := (dC, dI)) (ci := 6) (v := .int 1) (ty := .boolean) (C := cn_M) (T := tt_M) (N := 17) hx hb ht in_M ty_M tyok_M nm_M hown hK hP hD hS 0 rfl rfl 14 (by decide) (ht _ tw_3_55) (fun _ h9 => h9) rfl (by decide +kernel) rfl rfl (Nat.le_of_ble_eq_true rfl) dd_M_bail_38 (fun H_29 locs_30 hP hD hS => ?_)
        have hP : va_P (dC, dI) vwCl [(h0, .inr (6, [.int bg, .ref h1, .ref h2, .ref h3, .ref h4, .ref h5, .ref h6, .ref h7, .int ln, .ref h8, .int o_16.2, .int en, .int sx, .int pl, .int 1, .int tk, .ref h9])), (h1, .inl (cC, 6, .inl na)), (h2, .inl (cI, 2, .inl cu)), (h3, .inl (cI, 48, .inl pa)), (h4, .inl (cI, 48, .inl re)), (h5, .inl (cZ, 48, .inl cl)), (h6, .inl (cI, 48, .inl si)), (h7, .inl (cC, 288, .inl lt)), (h8, .inl (cC, 3000, .inl pg)), (h9, .inl (cC, 6, .inl rd))] H_29 := hP
        have hD : va_D A [(h0, .inr (6, [.int bg, .ref h1, .ref h2, .ref h3, .ref h4, .ref h5, .ref h6, .ref h7, .int ln, .ref h8, .int o_16.2, .int en, .int sx, .int pl, .int 1, .int tk, .ref h9])), (h1, .inl (cC, 6, .inl na)), (h2, .inl (cI, 2, .inl cu)), (h3, .inl (cI, 48, .inl pa)), (h4, .inl (cI, 48, .inl re)), (h5, .inl (cZ, 48, .inl cl)), (h6, .inl (cI, 48, .inl si)), (h7, .inl (cC, 288, .inl lt)), (h8, .inl (cC, 3000, .inl pg)), (h9, .inl (cC, 6, .inl rd))] := hD
        refine lv_aload_n hx hb dd_M_bail_41 rfl (lv_at hl 0 rfl) ?_
        refine va_get (D := (dC, dI)) (ci := 6) (v := .int 1) (C := cn_M) (T := tt_M) (N := 17) hx hb ht in_M hown hK hP 0 rfl rfl 14 (by decide) (ht _ tw_3_55) (fun _ h9 => h9) rfl dd_M_bail_42 ?_
        subst hQ
        obtain rfl := Option.some.inj hF
        exact W.zret (v := 1) hx hb hr rfl (fun t ht hW => ⟨⟨1, (), rfl, rfl, by rw [ht]; exact hP, va_K.moved hW.alike hK, hD⟩, hS.F ht⟩) hS.2.2 dd_M_bail_45
set_option maxHeartbeats 40000000 in
set_option maxRecDepth 100000 in
theorem c_M_subtest (l : Launch) (dC : Nat → ClassId) (dI : Nat → Nat → Nat) (cI cL cC cZ : ClassId) (h0 h1 h2 h3 h4 h5 h6 h7 h8 h9 : Nat) (sz : Nat) (bg : Int32) (ln : Int32) (mt : Int32) (en : Int32) (sx : Int32) (pl : Int32) (ov : Int32) (tk : Int32) (na : Nat → Int32) (cu : Nat → Int32) (pa : Nat → Int32) (re : Nat → Int32) (cl : Nat → Int32) (si : Nat → Int32) (lt : Nat → Int32) (pg : Nat → Int32) (rd : Nat → Int32) (x1 : Int32) (x2 : Int32) (out : Int32 × Int32 × Int32 × Int32 × (Nat → Int32) × (Nat → Int32) × (Nat → Int32) × (Nat → Int32) × (Nat → Int32) × (Nat → Int32) × (Nat → Int32)) (hF : fn_M_subtest en pg mt sx tk cu pa re cl si lt rd x1 x2 = some out) : Met l yy_M_subtest ws_M_subtest { frames := 3, cells := 0, slots := 0, locals := 70 } (mP_ (dC, dI) (tk_ cI cL cC cZ) [(h0, .inr (6, [.int bg, .ref h1, .ref h2, .ref h3, .ref h4, .ref h5, .ref h6, .ref h7, .int ln, .ref h8, .int mt, .int en, .int sx, .int pl, .int ov, .int tk, .ref h9])), (h1, .inl (cC, 6, .inl na)), (h2, .inl (cI, 2, .inl cu)), (h3, .inl (cI, 48, .inl pa)), (h4, .inl (cI, 48, .inl re)), (h5, .inl (cZ, 48, .inl cl)), (h6, .inl (cI, 48, .inl si)), (h7, .inl (cC, 288, .inl lt)), (h8, .inl (cC, 3000, .inl pg)), (h9, .inl (cC, 6, .inl rd))] sz [.ref h0, .int x1, .int x2]) (va_Qi (fun r (_ : Unit) => r = out.1) (mB_ (dC, dI) (tk_ cI cL cC cZ) [(h0, .inr (6, [.int bg, .ref h1, .ref h2, .ref h3, .ref h4, .ref h5, .ref h6, .ref h7, .int ln, .ref h8, .int out.2.1, .int en, .int out.2.2.1, .int pl, .int ov, .int out.2.2.2.1, .ref h9])), (h1, .inl (cC, 6, .inl na)), (h2, .inl (cI, 2, .inl out.2.2.2.2.1)), (h3, .inl (cI, 48, .inl out.2.2.2.2.2.1)), (h4, .inl (cI, 48, .inl out.2.2.2.2.2.2.1)), (h5, .inl (cZ, 48, .inl out.2.2.2.2.2.2.2.1)), (h6, .inl (cI, 48, .inl out.2.2.2.2.2.2.2.2.1)), (h7, .inl (cC, 288, .inl out.2.2.2.2.2.2.2.2.2.1)), (h8, .inl (cC, 3000, .inl pg)), (h9, .inl (cC, 6, .inl out.2.2.2.2.2.2.2.2.2.2))] (va_A [(h0, .inr (6, [.int bg, .ref h1, .ref h2, .ref h3, .ref h4, .ref h5, .ref h6, .ref h7, .int ln, .ref h8, .int mt, .int en, .int sx, .int pl, .int ov, .int tk, .ref h9])), (h1, .inl (cC, 6, .inl na)), (h2, .inl (cI, 2, .inl cu)), (h3, .inl (cI, 48, .inl pa)), (h4, .inl (cI, 48, .inl re)), (h5, .inl (cZ, 48, .inl cl)), (h6, .inl (cI, 48, .inl si)), (h7, .inl (cC, 288, .inl lt)), (h8, .inl (cC, 3000, .inl pg)), (h9, .inl (cC, 6, .inl rd))] sz)) (va_A [(h0, .inr (6, [.int bg, .ref h1, .ref h2, .ref h3, .ref h4, .ref h5, .ref h6, .ref h7, .int ln, .ref h8, .int mt, .int en, .int sx, .int pl, .int ov, .int tk, .ref h9])), (h1, .inl (cC, 6, .inl na)), (h2, .inl (cI, 2, .inl cu)), (h3, .inl (cI, 48, .inl pa)), (h4, .inl (cI, 48, .inl re)), (h5, .inl (cZ, 48, .inl cl)), (h6, .inl (cI, 48, .inl si)), (h7, .inl (cC, 288, .inl lt)), (h8, .inl (cC, 3000, .inl pg)), (h9, .inl (cC, 6, .inl rd))] sz)) 0 0 (va_A [(h0, .inr (6, [.int bg, .ref h1, .ref h2, .ref h3, .ref h4, .ref h5, .ref h6, .ref h7, .int ln, .ref h8, .int mt, .int en, .int sx, .int pl, .int ov, .int tk, .ref h9])), (h1, .inl (cC, 6, .inl na)), (h2, .inl (cI, 2, .inl cu)), (h3, .inl (cI, 48, .inl pa)), (h4, .inl (cI, 48, .inl re)), (h5, .inl (cZ, 48, .inl cl)), (h6, .inl (cI, 48, .inl si)), (h7, .inl (cC, 288, .inl lt)), (h8, .inl (cC, 3000, .inl pg)), (h9, .inl (cC, 6, .inl rd))] sz) := by
  refine Met.ofW (cc := cc_M_subtest) (maxL := 3) (ret := (some .boolean)) (by decide) rfl ?_
  intro p e s m args below meth c s₁ B hml hv
  obtain ⟨hargs, hsz, hP, hK, hD0⟩ := hv
  have hx := B.exec
  have hb := B.bytes
  have hr := B.returns
  have hts := atoms_spec (ws := ws_M_subtest) B.pre
  have ht : ∀ w ∈ TB_, w.before args s = true := fun w h => hts w (List.mem_cons_of_mem _ h)
  have hown : s.vm.findClass cn_M = some m.cls := findClass_of_methodNamed B.named
  have hlocks := B.notSynchronized
  subst hsz
  have hD := hD0.self (sz := s.heap.size)
  generalize hAe : va_A [(h0, .inr (6, [.int bg, .ref h1, .ref h2, .ref h3, .ref h4, .ref h5, .ref h6, .ref h7, .int ln, .ref h8, .int mt, .int en, .int sx, .int pl, .int ov, .int tk, .ref h9])), (h1, .inl (cC, 6, .inl na)), (h2, .inl (cI, 2, .inl cu)), (h3, .inl (cI, 48, .inl pa)), (h4, .inl (cI, 48, .inl re)), (h5, .inl (cZ, 48, .inl cl)), (h6, .inl (cI, 48, .inl si)), (h7, .inl (cC, 288, .inl lt)), (h8, .inl (cC, 3000, .inl pg)), (h9, .inl (cC, 6, .inl rd))] s.heap.size = A at hD ⊢
  have hA : ∀ q : Nat, s.heap.size ≤ q → A q := fun q h => by rw [← hAe]; exact Or.inr h
  have hS : va_S A s.heap s.heap [] := va_S.rf
  have hP : va_P (dC, dI) vwCl [(h0, .inr (6, [.int bg, .ref h1, .ref h2, .ref h3, .ref h4, .ref h5, .ref h6, .ref h7, .int ln, .ref h8, .int mt, .int en, .int sx, .int pl, .int ov, .int tk, .ref h9])), (h1, .inl (cC, 6, .inl na)), (h2, .inl (cI, 2, .inl cu)), (h3, .inl (cI, 48, .inl pa)), (h4, .inl (cI, 48, .inl re)), (h5, .inl (cZ, 48, .inl cl)), (h6, .inl (cI, 48, .inl si)), (h7, .inl (cC, 288, .inl lt)), (h8, .inl (cC, 3000, .inl pg)), (h9, .inl (cC, 6, .inl rd))] s.heap := hP
  have hl := lv_entry [.ref h0, .int x1, .int x2] (n := 3) (Nat.le_of_ble_eq_true rfl)
  have he : entryFrame m args 3 = _ := (congrArg (fun a => entryFrame m a 3) hargs).trans (lg_entry_eq m [.ref h0, .int x1, .int x2] 3)
  rw [he]
  generalize (lg_sl [.ref h0, .int x1, .int x2] ++ List.replicate (3 - (lg_sl [.ref h0, .int x1, .int x2]).length) Slot.unset).toArray = ls at hl ⊢
  have hl : lv_has ls 3 [(0, .ref h0), (1, .int x1), (2, .int x2)] := hl
  generalize hQ : MQ below _ args s _ _ _ = Q
  unfold fn_M_subtest at hF
  refine lv_aload_n hx hb dd_M_subtest_0 rfl (lv_at hl 0 rfl) ?_
  refine lv_iload_n hx hb dd_M_subtest_1 rfl (lv_at hl 1 rfl) ?_
  refine va_put (D := (dC, dI)) (ci := 6) (v := .int x1) (ty := .int) (C := cn_M) (T := tt_M) (N := 17) hx hb ht in_M ty_M tyok_M nm_M hown hK hP hD hS 0 rfl rfl 10 (by decide) (ht _ tw_3_51) (fun _ h9 => h9) rfl (by decide +kernel) rfl rfl (Nat.le_of_ble_eq_true rfl) dd_M_subtest_2 (fun H_16 locs_17 hP hD hS => ?_)
  have hP : va_P (dC, dI) vwCl [(h0, .inr (6, [.int bg, .ref h1, .ref h2, .ref h3, .ref h4, .ref h5, .ref h6, .ref h7, .int ln, .ref h8, .int x1, .int en, .int sx, .int pl, .int ov, .int tk, .ref h9])), (h1, .inl (cC, 6, .inl na)), (h2, .inl (cI, 2, .inl cu)), (h3, .inl (cI, 48, .inl pa)), (h4, .inl (cI, 48, .inl re)), (h5, .inl (cZ, 48, .inl cl)), (h6, .inl (cI, 48, .inl si)), (h7, .inl (cC, 288, .inl lt)), (h8, .inl (cC, 3000, .inl pg)), (h9, .inl (cC, 6, .inl rd))] H_16 := hP
  have hD : va_D A [(h0, .inr (6, [.int bg, .ref h1, .ref h2, .ref h3, .ref h4, .ref h5, .ref h6, .ref h7, .int ln, .ref h8, .int x1, .int en, .int sx, .int pl, .int ov, .int tk, .ref h9])), (h1, .inl (cC, 6, .inl na)), (h2, .inl (cI, 2, .inl cu)), (h3, .inl (cI, 48, .inl pa)), (h4, .inl (cI, 48, .inl re)), (h5, .inl (cZ, 48, .inl cl)), (h6, .inl (cI, 48, .inl si)), (h7, .inl (cC, 288, .inl lt)), (h8, .inl (cC, 3000, .inl pg)), (h9, .inl (cC, 6, .inl rd))] := hD
  refine lv_iload_n hx hb dd_M_subtest_5 rfl (lv_at hl 2 rfl) ?_
  refine lv_iconst (v := 3) hx hb dd_M_subtest_6 (by decide) ?_
  refine lv_icmp_ge (tgt := 50) hx hb dd_M_subtest_7 (by decide) (fun c_18 => ?_) (fun c_18 => ?_)
  · have hF := jv_t c_18 hF
    refine lv_iconst (v := 0) hx hb dd_M_subtest_50 (by decide) ?_
    subst hQ
    obtain rfl := Option.some.inj hF
    exact W.zret (v := 0) hx hb hr rfl (fun t ht hW => ⟨⟨0, (), rfl, rfl, by rw [ht]; exact hP, va_K.moved hW.alike hK, hD⟩, hS.F ht⟩) hS.2.2 dd_M_subtest_51
  · have hF := jv_f c_18 hF
    refine lv_aload_n hx hb dd_M_subtest_10 rfl (lv_at hl 0 rfl) ?_
    refine lv_iload_n hx hb dd_M_subtest_11 rfl (lv_at hl 2 rfl) ?_
    obtain ⟨o_12, ho_12, hF⟩ := jv_bi hF
    refine jv_mi (wr := []) (w1 := [(h0, .inr (6, [.int bg, .ref h1, .ref h2, .ref h3, .ref h4, .ref h5, .ref h6, .ref h7, .int ln, .ref h8, .int o_12.2, .int en, .int sx, .int pl, .int ov, .int tk, .ref h9])), (h1, .inl (cC, 6, .inl na)), (h2, .inl (cI, 2, .inl cu)), (h3, .inl (cI, 48, .inl pa)), (h4, .inl (cI, 48, .inl re)), (h5, .inl (cZ, 48, .inl cl)), (h6, .inl (cI, 48, .inl si)), (h7, .inl (cC, 288, .inl lt)), (h8, .inl (cC, 3000, .inl pg)), (h9, .inl (cC, 6, .inl rd))]) (va_runV (C := cn_M) (As := [.int x2]) (rest := []) ⟨hx, hb, hml, hown, ht⟩ (c_M_eatSpaces l dC dI cI cL cC cZ h0 h1 h2 h3 h4 h5 h6 h7 h8 h9 H_16.size bg ln x1 en sx pl ov tk na cu pa re cl si lt pg rd x2 _ ho_12) (cwV 1 ht (gi_V tw_3_229 tw_3_231 tw_p_32 tw_1_4 tw_3_232) rfl rfl rfl (by decide +kernel) ⟨Nat.le_of_ble_eq_true rfl, Nat.le_of_ble_eq_true rfl⟩) (jv_pv hK hP hD [0, 1, 2, 3, 4, 5, 6, 7, 8, 9] rfl (by decide) rfl (va_recv hK hP (ci := 6) (q0 := 0) rfl rfl)) rfl rfl hl.1 rfl (lv_room (Nat.le_of_ble_eq_true rfl)) dd_M_subtest_12 ⟨Nat.le_of_ble_eq_true rfl, Nat.le_of_ble_eq_true rfl⟩) hP hD hS hA [0, 1, 2, 3, 4, 5, 6, 7, 8, 9] [] rfl rfl (by decide) (by decide) (fun H_19 locs_20 hP hD hS => ?_)
    have hP : va_P (dC, dI) vwCl [(h0, .inr (6, [.int bg, .ref h1, .ref h2, .ref h3, .ref h4, .ref h5, .ref h6, .ref h7, .int ln, .ref h8, .int o_12.2, .int en, .int sx, .int pl, .int ov, .int tk, .ref h9])), (h1, .inl (cC, 6, .inl na)), (h2, .inl (cI, 2, .inl cu)), (h3, .inl (cI, 48, .inl pa)), (h4, .inl (cI, 48, .inl re)), (h5, .inl (cZ, 48, .inl cl)), (h6, .inl (cI, 48, .inl si)), (h7, .inl (cC, 288, .inl lt)), (h8, .inl (cC, 3000, .inl pg)), (h9, .inl (cC, 6, .inl rd))] H_19 := hP.sub [0, 1, 2, 3, 4, 5, 6, 7, 8, 9] rfl
    have hD : va_D A [(h0, .inr (6, [.int bg, .ref h1, .ref h2, .ref h3, .ref h4, .ref h5, .ref h6, .ref h7, .int ln, .ref h8, .int o_12.2, .int en, .int sx, .int pl, .int ov, .int tk, .ref h9])), (h1, .inl (cC, 6, .inl na)), (h2, .inl (cI, 2, .inl cu)), (h3, .inl (cI, 48, .inl pa)), (h4, .inl (cI, 48, .inl re)), (h5, .inl (cZ, 48, .inl cl)), (h6, .inl (cI, 48, .inl si)), (h7, .inl (cC, 288, .inl lt)), (h8, .inl (cC, 3000, .inl pg)), (h9, .inl (cC, 6, .inl rd))] := hD.sub [0, 1, 2, 3, 4, 5, 6, 7, 8, 9] (by decide) rfl
    refine lv_if_eq (tgt := 50) hx hb dd_M_subtest_15 (by decide) (fun c_21 => ?_) (fun c_21 => ?_)
    · have hF := jv_t c_21 hF
      refine lv_iconst (v := 0) hx hb dd_M_subtest_50 (by decide) ?_
      subst hQ
      obtain rfl := Option.some.inj hF
      exact W.zret (v := 0) hx hb hr rfl (fun t ht hW => ⟨⟨0, (), rfl, rfl, by rw [ht]; exact hP, va_K.moved hW.alike hK, hD⟩, hS.F ht⟩) hS.2.2 dd_M_subtest_51
    · have hF := jv_f c_21 hF
      refine lv_aload_n hx hb dd_M_subtest_18 rfl (lv_at hl 0 rfl) ?_
      refine lv_bipush (v := 6) hx hb dd_M_subtest_19 (by decide) ?_
      obtain ⟨o_21, ho_21, hF⟩ := jv_bi hF
      refine jv_mi (wr := []) (w1 := [(h0, .inr (6, [.int bg, .ref h1, .ref h2, .ref h3, .ref h4, .ref h5, .ref h6, .ref h7, .int ln, .ref h8, .int o_21.2, .int en, .int sx, .int pl, .int ov, .int tk, .ref h9])), (h1, .inl (cC, 6, .inl na)), (h2, .inl (cI, 2, .inl cu)), (h3, .inl (cI, 48, .inl pa)), (h4, .inl (cI, 48, .inl re)), (h5, .inl (cZ, 48, .inl cl)), (h6, .inl (cI, 48, .inl si)), (h7, .inl (cC, 288, .inl lt)), (h8, .inl (cC, 3000, .inl pg)), (h9, .inl (cC, 6, .inl rd))]) (va_runV (C := cn_M) (As := [.int 6]) (rest := []) ⟨hx, hb, hml, hown, ht⟩ (c_M_eat l dC dI cI cL cC cZ h0 h1 h2 h3 h4 h5 h6 h7 h8 h9 H_19.size bg ln o_12.2 en sx pl ov tk na cu pa re cl si lt pg rd 6 _ ho_21) (cwV 1 ht (gi_V tw_3_217 tw_3_219 tw_p_29 tw_1_4 tw_3_220) rfl rfl rfl (by decide +kernel) ⟨Nat.le_of_ble_eq_true rfl, Nat.le_of_ble_eq_true rfl⟩) (jv_pv hK hP hD [0, 1, 2, 3, 4, 5, 6, 7, 8, 9] rfl (by decide) rfl (va_recv hK hP (ci := 6) (q0 := 0) rfl rfl)) rfl rfl hl.1 rfl (lv_room (Nat.le_of_ble_eq_true rfl)) dd_M_subtest_21 ⟨Nat.le_of_ble_eq_true rfl, Nat.le_of_ble_eq_true rfl⟩) hP hD hS hA [0, 1, 2, 3, 4, 5, 6, 7, 8, 9] [] rfl rfl (by decide) (by decide) (fun H_22 locs_23 hP hD hS => ?_)
      have hP : va_P (dC, dI) vwCl [(h0, .inr (6, [.int bg, .ref h1, .ref h2, .ref h3, .ref h4, .ref h5, .ref h6, .ref h7, .int ln, .ref h8, .int o_21.2, .int en, .int sx, .int pl, .int ov, .int tk, .ref h9])), (h1, .inl (cC, 6, .inl na)), (h2, .inl (cI, 2, .inl cu)), (h3, .inl (cI, 48, .inl pa)), (h4, .inl (cI, 48, .inl re)), (h5, .inl (cZ, 48, .inl cl)), (h6, .inl (cI, 48, .inl si)), (h7, .inl (cC, 288, .inl lt)), (h8, .inl (cC, 3000, .inl pg)), (h9, .inl (cC, 6, .inl rd))] H_22 := hP.sub [0, 1, 2, 3, 4, 5, 6, 7, 8, 9] rfl
      have hD : va_D A [(h0, .inr (6, [.int bg, .ref h1, .ref h2, .ref h3, .ref h4, .ref h5, .ref h6, .ref h7, .int ln, .ref h8, .int o_21.2, .int en, .int sx, .int pl, .int ov, .int tk, .ref h9])), (h1, .inl (cC, 6, .inl na)), (h2, .inl (cI, 2, .inl cu)), (h3, .inl (cI, 48, .inl pa)), (h4, .inl (cI, 48, .inl re)), (h5, .inl (cZ, 48, .inl cl)), (h6, .inl (cI, 48, .inl si)), (h7, .inl (cC, 288, .inl lt)), (h8, .inl (cC, 3000, .inl pg)), (h9, .inl (cC, 6, .inl rd))] := hD.sub [0, 1, 2, 3, 4, 5, 6, 7, 8, 9] (by decide) rfl
      refine lv_if_eq (tgt := 50) hx hb dd_M_subtest_24 (by decide) (fun c_24 => ?_) (fun c_24 => ?_)
      · have hF := jv_t c_24 hF
        refine lv_iconst (v := 0) hx hb dd_M_subtest_50 (by decide) ?_
        subst hQ
        obtain rfl := Option.some.inj hF
        exact W.zret (v := 0) hx hb hr rfl (fun t ht hW => ⟨⟨0, (), rfl, rfl, by rw [ht]; exact hP, va_K.moved hW.alike hK, hD⟩, hS.F ht⟩) hS.2.2 dd_M_subtest_51
      · have hF := jv_f c_24 hF
        refine lv_aload_n hx hb dd_M_subtest_27 rfl (lv_at hl 0 rfl) ?_
        refine lv_aload_n hx hb dd_M_subtest_28 rfl (lv_at hl 0 rfl) ?_
        refine va_get (D := (dC, dI)) (ci := 6) (v := .int en) (C := cn_M) (T := tt_M) (N := 17) hx hb ht in_M hown hK hP 0 rfl rfl 11 (by decide) (ht _ tw_3_52) (fun _ h9 => h9) rfl dd_M_subtest_29 ?_
        obtain ⟨o_32, ho_32, hF⟩ := jv_bi hF
        refine jv_mi (wr := []) (w1 := [(h0, .inr (6, [.int bg, .ref h1, .ref h2, .ref h3, .ref h4, .ref h5, .ref h6, .ref h7, .int ln, .ref h8, .int o_32.2.1, .int en, .int sx, .int pl, .int ov, .int o_32.2.2.1, .ref h9])), (h1, .inl (cC, 6, .inl na)), (h2, .inl (cI, 2, .inl cu)), (h3, .inl (cI, 48, .inl pa)), (h4, .inl (cI, 48, .inl re)), (h5, .inl (cZ, 48, .inl cl)), (h6, .inl (cI, 48, .inl si)), (h7, .inl (cC, 288, .inl lt)), (h8, .inl (cC, 3000, .inl pg)), (h9, .inl (cC, 6, .inl o_32.2.2.2))]) (va_runV (C := cn_M) (As := [.int en]) (rest := []) ⟨hx, hb, hml, hown, ht⟩ (c_M_eatName l dC dI cI cL cC cZ h0 h1 h2 h3 h4 h5 h6 h7 h8 h9 H_22.size bg ln o_21.2 en sx pl ov tk na cu pa re cl si lt pg rd en _ ho_32) (cwV 1 ht (gi_V tw_4_1 tw_4_3 tw_p_35 tw_1_4 tw_4_4) rfl rfl rfl (by decide +kernel) ⟨Nat.le_of_ble_eq_true rfl, Nat.le_of_ble_eq_true rfl⟩) (jv_pv hK hP hD [0, 1, 2, 3, 4, 5, 6, 7, 8, 9] rfl (by decide) rfl (va_recv hK hP (ci := 6) (q0 := 0) rfl rfl)) rfl rfl hl.1 rfl (lv_room (Nat.le_of_ble_eq_true rfl)) dd_M_subtest_32 ⟨Nat.le_of_ble_eq_true rfl, Nat.le_of_ble_eq_true rfl⟩) hP hD hS hA [0, 1, 2, 3, 4, 5, 6, 7, 8, 9] [] rfl rfl (by decide) (by decide) (fun H_25 locs_26 hP hD hS => ?_)
        have hP : va_P (dC, dI) vwCl [(h0, .inr (6, [.int bg, .ref h1, .ref h2, .ref h3, .ref h4, .ref h5, .ref h6, .ref h7, .int ln, .ref h8, .int o_32.2.1, .int en, .int sx, .int pl, .int ov, .int o_32.2.2.1, .ref h9])), (h1, .inl (cC, 6, .inl na)), (h2, .inl (cI, 2, .inl cu)), (h3, .inl (cI, 48, .inl pa)), (h4, .inl (cI, 48, .inl re)), (h5, .inl (cZ, 48, .inl cl)), (h6, .inl (cI, 48, .inl si)), (h7, .inl (cC, 288, .inl lt)), (h8, .inl (cC, 3000, .inl pg)), (h9, .inl (cC, 6, .inl o_32.2.2.2))] H_25 := hP.sub [0, 1, 2, 3, 4, 5, 6, 7, 8, 9] rfl
        have hD : va_D A [(h0, .inr (6, [.int bg, .ref h1, .ref h2, .ref h3, .ref h4, .ref h5, .ref h6, .ref h7, .int ln, .ref h8, .int o_32.2.1, .int en, .int sx, .int pl, .int ov, .int o_32.2.2.1, .ref h9])), (h1, .inl (cC, 6, .inl na)), (h2, .inl (cI, 2, .inl cu)), (h3, .inl (cI, 48, .inl pa)), (h4, .inl (cI, 48, .inl re)), (h5, .inl (cZ, 48, .inl cl)), (h6, .inl (cI, 48, .inl si)), (h7, .inl (cC, 288, .inl lt)), (h8, .inl (cC, 3000, .inl pg)), (h9, .inl (cC, 6, .inl o_32.2.2.2))] := hD.sub [0, 1, 2, 3, 4, 5, 6, 7, 8, 9] (by decide) rfl
        refine lv_if_eq (tgt := 50) hx hb dd_M_subtest_35 (by decide) (fun c_27 => ?_) (fun c_27 => ?_)
        · have hF := jv_t c_27 hF
          refine lv_iconst (v := 0) hx hb dd_M_subtest_50 (by decide) ?_
          subst hQ
          obtain rfl := Option.some.inj hF
          exact W.zret (v := 0) hx hb hr rfl (fun t ht hW => ⟨⟨0, (), rfl, rfl, by rw [ht]; exact hP, va_K.moved hW.alike hK, hD⟩, hS.F ht⟩) hS.2.2 dd_M_subtest_51
        · have hF := jv_f c_27 hF
          refine lv_aload_n hx hb dd_M_subtest_38 rfl (lv_at hl 0 rfl) ?_
          refine lv_iconst (v := 4) hx hb dd_M_subtest_39 (by decide) ?_
          obtain ⟨o_40, ho_40, hF⟩ := jv_bi hF
          refine jv_mi (wr := []) (w1 := [(h0, .inr (6, [.int bg, .ref h1, .ref h2, .ref h3, .ref h4, .ref h5, .ref h6, .ref h7, .int ln, .ref h8, .int o_32.2.1, .int en, .int o_40.2.1, .int pl, .int ov, .int o_32.2.2.1, .ref h9])), (h1, .inl (cC, 6, .inl na)), (h2, .inl (cI, 2, .inl o_40.2.2.1)), (h3, .inl (cI, 48, .inl o_40.2.2.2.1)), (h4, .inl (cI, 48, .inl o_40.2.2.2.2.1)), (h5, .inl (cZ, 48, .inl o_40.2.2.2.2.2.1)), (h6, .inl (cI, 48, .inl o_40.2.2.2.2.2.2.1)), (h7, .inl (cC, 288, .inl o_40.2.2.2.2.2.2.2)), (h8, .inl (cC, 3000, .inl pg)), (h9, .inl (cC, 6, .inl o_32.2.2.2))]) (va_runV (C := cn_M) (As := [.int 4]) (rest := []) ⟨hx, hb, hml, hown, ht⟩ (c_M_accept l dC dI cI cL cC cZ h0 h1 h2 h3 h4 h5 h6 h7 h8 h9 H_25.size bg ln o_32.2.1 en sx pl ov o_32.2.2.1 na cu pa re cl si lt pg o_32.2.2.2 4 _ ho_40) (cwV 1 ht (gi_V tw_4_21 tw_4_23 tw_p_40 tw_1_4 tw_4_24) rfl rfl rfl (by decide +kernel) ⟨Nat.le_of_ble_eq_true rfl, Nat.le_of_ble_eq_true rfl⟩) (jv_pv hK hP hD [0, 1, 2, 3, 4, 5, 6, 7, 8, 9] rfl (by decide) rfl (va_recv hK hP (ci := 6) (q0 := 0) rfl rfl)) rfl rfl hl.1 rfl (lv_room (Nat.le_of_ble_eq_true rfl)) dd_M_subtest_40 ⟨Nat.le_of_ble_eq_true rfl, Nat.le_of_ble_eq_true rfl⟩) hP hD hS hA [0, 1, 2, 3, 4, 5, 6, 7, 8, 9] [] rfl rfl (by decide) (by decide) (fun H_28 locs_29 hP hD hS => ?_)
          have hP : va_P (dC, dI) vwCl [(h0, .inr (6, [.int bg, .ref h1, .ref h2, .ref h3, .ref h4, .ref h5, .ref h6, .ref h7, .int ln, .ref h8, .int o_32.2.1, .int en, .int o_40.2.1, .int pl, .int ov, .int o_32.2.2.1, .ref h9])), (h1, .inl (cC, 6, .inl na)), (h2, .inl (cI, 2, .inl o_40.2.2.1)), (h3, .inl (cI, 48, .inl o_40.2.2.2.1)), (h4, .inl (cI, 48, .inl o_40.2.2.2.2.1)), (h5, .inl (cZ, 48, .inl o_40.2.2.2.2.2.1)), (h6, .inl (cI, 48, .inl o_40.2.2.2.2.2.2.1)), (h7, .inl (cC, 288, .inl o_40.2.2.2.2.2.2.2)), (h8, .inl (cC, 3000, .inl pg)), (h9, .inl (cC, 6, .inl o_32.2.2.2))] H_28 := hP.sub [0, 1, 2, 3, 4, 5, 6, 7, 8, 9] rfl
          have hD : va_D A [(h0, .inr (6, [.int bg, .ref h1, .ref h2, .ref h3, .ref h4, .ref h5, .ref h6, .ref h7, .int ln, .ref h8, .int o_32.2.1, .int en, .int o_40.2.1, .int pl, .int ov, .int o_32.2.2.1, .ref h9])), (h1, .inl (cC, 6, .inl na)), (h2, .inl (cI, 2, .inl o_40.2.2.1)), (h3, .inl (cI, 48, .inl o_40.2.2.2.1)), (h4, .inl (cI, 48, .inl o_40.2.2.2.2.1)), (h5, .inl (cZ, 48, .inl o_40.2.2.2.2.2.1)), (h6, .inl (cI, 48, .inl o_40.2.2.2.2.2.2.1)), (h7, .inl (cC, 288, .inl o_40.2.2.2.2.2.2.2)), (h8, .inl (cC, 3000, .inl pg)), (h9, .inl (cC, 6, .inl o_32.2.2.2))] := hD.sub [0, 1, 2, 3, 4, 5, 6, 7, 8, 9] (by decide) rfl
          refine lv_if_eq (tgt := 50) hx hb dd_M_subtest_43 (by decide) (fun c_30 => ?_) (fun c_30 => ?_)
          · have hF := jv_t c_30 hF
            refine lv_iconst (v := 0) hx hb dd_M_subtest_50 (by decide) ?_
            subst hQ
            obtain rfl := Option.some.inj hF
            exact W.zret (v := 0) hx hb hr rfl (fun t ht hW => ⟨⟨0, (), rfl, rfl, by rw [ht]; exact hP, va_K.moved hW.alike hK, hD⟩, hS.F ht⟩) hS.2.2 dd_M_subtest_51
          · have hF := jv_f c_30 hF
            refine lv_iconst (v := 1) hx hb dd_M_subtest_46 (by decide) ?_
            refine lv_goto (tgt := 51) hx hb dd_M_subtest_47 (by decide) ?_
            subst hQ
            obtain rfl := Option.some.inj hF
            exact W.zret (v := 1) hx hb hr rfl (fun t ht hW => ⟨⟨1, (), rfl, rfl, by rw [ht]; exact hP, va_K.moved hW.alike hK, hD⟩, hS.F ht⟩) hS.2.2 dd_M_subtest_51
set_option maxHeartbeats 40000000 in
set_option maxRecDepth 100000 in
theorem c_M_endsWith (l : Launch) (dC : Nat → ClassId) (dI : Nat → Nat → Nat) (cI cL cC cZ : ClassId) (h0 h1 h2 h3 h4 h5 h6 h7 h8 h9 : Nat) (sz : Nat) (bg : Int32) (ln : Int32) (mt : Int32) (en : Int32) (sx : Int32) (pl : Int32) (ov : Int32) (tk : Int32) (na : Nat → Int32) (cu : Nat → Int32) (pa : Nat → Int32) (re : Nat → Int32) (cl : Nat → Int32) (si : Nat → Int32) (lt : Nat → Int32) (pg : Nat → Int32) (rd : Nat → Int32) (x1 : Int32) (x2 : Int32) (x3 : Int32) (out : Int32 × Int32) (hF : fn_M_endsWith en pg mt x1 x2 x3 = some out) : Met l yy_M_endsWith ws_M_endsWith { frames := 3, cells := 0, slots := 0, locals := 67 } (mP_ (dC, dI) (tk_ cI cL cC cZ) [(h0, .inr (6, [.int bg, .ref h1, .ref h2, .ref h3, .ref h4, .ref h5, .ref h6, .ref h7, .int ln, .ref h8, .int mt, .int en, .int sx, .int pl, .int ov, .int tk, .ref h9])), (h1, .inl (cC, 6, .inl na)), (h2, .inl (cI, 2, .inl cu)), (h3, .inl (cI, 48, .inl pa)), (h4, .inl (cI, 48, .inl re)), (h5, .inl (cZ, 48, .inl cl)), (h6, .inl (cI, 48, .inl si)), (h7, .inl (cC, 288, .inl lt)), (h8, .inl (cC, 3000, .inl pg)), (h9, .inl (cC, 6, .inl rd))] sz [.ref h0, .int x1, .int x2, .int x3]) (va_Qi (fun r (_ : Unit) => r = out.1) (mB_ (dC, dI) (tk_ cI cL cC cZ) [(h0, .inr (6, [.int bg, .ref h1, .ref h2, .ref h3, .ref h4, .ref h5, .ref h6, .ref h7, .int ln, .ref h8, .int out.2, .int en, .int sx, .int pl, .int ov, .int tk, .ref h9])), (h1, .inl (cC, 6, .inl na)), (h2, .inl (cI, 2, .inl cu)), (h3, .inl (cI, 48, .inl pa)), (h4, .inl (cI, 48, .inl re)), (h5, .inl (cZ, 48, .inl cl)), (h6, .inl (cI, 48, .inl si)), (h7, .inl (cC, 288, .inl lt)), (h8, .inl (cC, 3000, .inl pg)), (h9, .inl (cC, 6, .inl rd))] (va_A [(h0, .inr (6, [.int bg, .ref h1, .ref h2, .ref h3, .ref h4, .ref h5, .ref h6, .ref h7, .int ln, .ref h8, .int mt, .int en, .int sx, .int pl, .int ov, .int tk, .ref h9])), (h1, .inl (cC, 6, .inl na)), (h2, .inl (cI, 2, .inl cu)), (h3, .inl (cI, 48, .inl pa)), (h4, .inl (cI, 48, .inl re)), (h5, .inl (cZ, 48, .inl cl)), (h6, .inl (cI, 48, .inl si)), (h7, .inl (cC, 288, .inl lt)), (h8, .inl (cC, 3000, .inl pg)), (h9, .inl (cC, 6, .inl rd))] sz)) (va_A [(h0, .inr (6, [.int bg, .ref h1, .ref h2, .ref h3, .ref h4, .ref h5, .ref h6, .ref h7, .int ln, .ref h8, .int mt, .int en, .int sx, .int pl, .int ov, .int tk, .ref h9])), (h1, .inl (cC, 6, .inl na)), (h2, .inl (cI, 2, .inl cu)), (h3, .inl (cI, 48, .inl pa)), (h4, .inl (cI, 48, .inl re)), (h5, .inl (cZ, 48, .inl cl)), (h6, .inl (cI, 48, .inl si)), (h7, .inl (cC, 288, .inl lt)), (h8, .inl (cC, 3000, .inl pg)), (h9, .inl (cC, 6, .inl rd))] sz)) 0 0 (va_A [(h0, .inr (6, [.int bg, .ref h1, .ref h2, .ref h3, .ref h4, .ref h5, .ref h6, .ref h7, .int ln, .ref h8, .int mt, .int en, .int sx, .int pl, .int ov, .int tk, .ref h9])), (h1, .inl (cC, 6, .inl na)), (h2, .inl (cI, 2, .inl cu)), (h3, .inl (cI, 48, .inl pa)), (h4, .inl (cI, 48, .inl re)), (h5, .inl (cZ, 48, .inl cl)), (h6, .inl (cI, 48, .inl si)), (h7, .inl (cC, 288, .inl lt)), (h8, .inl (cC, 3000, .inl pg)), (h9, .inl (cC, 6, .inl rd))] sz) := by
  refine Met.ofW (cc := cc_M_endsWith) (maxL := 6) (ret := (some .boolean)) (by decide) rfl ?_
  intro p e s m args below meth c s₁ B hml hv
  obtain ⟨hargs, hsz, hP, hK, hD0⟩ := hv
  have hx := B.exec
  have hb := B.bytes
  have hr := B.returns
  have hts := atoms_spec (ws := ws_M_endsWith) B.pre
  have ht : ∀ w ∈ TB_, w.before args s = true := fun w h => hts w (List.mem_cons_of_mem _ h)
  have hown : s.vm.findClass cn_M = some m.cls := findClass_of_methodNamed B.named
  have hlocks := B.notSynchronized
  subst hsz
  have hD := hD0.self (sz := s.heap.size)
  generalize hAe : va_A [(h0, .inr (6, [.int bg, .ref h1, .ref h2, .ref h3, .ref h4, .ref h5, .ref h6, .ref h7, .int ln, .ref h8, .int mt, .int en, .int sx, .int pl, .int ov, .int tk, .ref h9])), (h1, .inl (cC, 6, .inl na)), (h2, .inl (cI, 2, .inl cu)), (h3, .inl (cI, 48, .inl pa)), (h4, .inl (cI, 48, .inl re)), (h5, .inl (cZ, 48, .inl cl)), (h6, .inl (cI, 48, .inl si)), (h7, .inl (cC, 288, .inl lt)), (h8, .inl (cC, 3000, .inl pg)), (h9, .inl (cC, 6, .inl rd))] s.heap.size = A at hD ⊢
  have hA : ∀ q : Nat, s.heap.size ≤ q → A q := fun q h => by rw [← hAe]; exact Or.inr h
  have hS : va_S A s.heap s.heap [] := va_S.rf
  have hP : va_P (dC, dI) vwCl [(h0, .inr (6, [.int bg, .ref h1, .ref h2, .ref h3, .ref h4, .ref h5, .ref h6, .ref h7, .int ln, .ref h8, .int mt, .int en, .int sx, .int pl, .int ov, .int tk, .ref h9])), (h1, .inl (cC, 6, .inl na)), (h2, .inl (cI, 2, .inl cu)), (h3, .inl (cI, 48, .inl pa)), (h4, .inl (cI, 48, .inl re)), (h5, .inl (cZ, 48, .inl cl)), (h6, .inl (cI, 48, .inl si)), (h7, .inl (cC, 288, .inl lt)), (h8, .inl (cC, 3000, .inl pg)), (h9, .inl (cC, 6, .inl rd))] s.heap := hP
  have hl := lv_entry [.ref h0, .int x1, .int x2, .int x3] (n := 6) (Nat.le_of_ble_eq_true rfl)
  have he : entryFrame m args 6 = _ := (congrArg (fun a => entryFrame m a 6) hargs).trans (lg_entry_eq m [.ref h0, .int x1, .int x2, .int x3] 6)
  rw [he]
  generalize (lg_sl [.ref h0, .int x1, .int x2, .int x3] ++ List.replicate (6 - (lg_sl [.ref h0, .int x1, .int x2, .int x3]).length) Slot.unset).toArray = ls at hl ⊢
  have hl : lv_has ls 6 [(0, .ref h0), (1, .int x1), (2, .int x2), (3, .int x3)] := hl
  generalize hQ : MQ below _ args s _ _ _ = Q
  unfold fn_M_endsWith at hF
  refine lv_aload_n hx hb dd_M_endsWith_0 rfl (lv_at hl 0 rfl) ?_
  refine va_get (D := (dC, dI)) (ci := 6) (v := .int mt) (C := cn_M) (T := tt_M) (N := 17) hx hb ht in_M hown hK hP 0 rfl rfl 10 (by decide) (ht _ tw_3_51) (fun _ h9 => h9) rfl dd_M_endsWith_1 ?_
  refine lv_istore (lv' := [(4, .int mt), (0, .ref h0), (1, .int x1), (2, .int x2), (3, .int x3)]) hx hb dd_M_endsWith_4 hl (by decide) rfl (fun ls hl => ?_)
  refine lv_aload_n hx hb dd_M_endsWith_6 rfl (lv_at hl 1 rfl) ?_
  refine lv_aload_n hx hb dd_M_endsWith_7 rfl (lv_at hl 1 rfl) ?_
  refine va_get (D := (dC, dI)) (ci := 6) (v := .int en) (C := cn_M) (T := tt_M) (N := 17) hx hb ht in_M hown hK hP 0 rfl rfl 11 (by decide) (ht _ tw_3_52) (fun _ h9 => h9) rfl dd_M_endsWith_8 ?_
  refine lv_iload_n hx hb dd_M_endsWith_11 rfl (lv_at hl 4 rfl) ?_
  refine lv_isub hx hb dd_M_endsWith_12 ?_
  refine va_put (D := (dC, dI)) (ci := 6) (v := .int (en - x3)) (ty := .int) (C := cn_M) (T := tt_M) (N := 17) hx hb ht in_M ty_M tyok_M nm_M hown hK hP hD hS 0 rfl rfl 10 (by decide) (ht _ tw_3_51) (fun _ h9 => h9) rfl (by decide +kernel) rfl rfl (Nat.le_of_ble_eq_true rfl) dd_M_endsWith_13 (fun H_13 locs_14 hP hD hS => ?_)
  have hP : va_P (dC, dI) vwCl [(h0, .inr (6, [.int bg, .ref h1, .ref h2, .ref h3, .ref h4, .ref h5, .ref h6, .ref h7, .int ln, .ref h8, .int (en - x3), .int en, .int sx, .int pl, .int ov, .int tk, .ref h9])), (h1, .inl (cC, 6, .inl na)), (h2, .inl (cI, 2, .inl cu)), (h3, .inl (cI, 48, .inl pa)), (h4, .inl (cI, 48, .inl re)), (h5, .inl (cZ, 48, .inl cl)), (h6, .inl (cI, 48, .inl si)), (h7, .inl (cC, 288, .inl lt)), (h8, .inl (cC, 3000, .inl pg)), (h9, .inl (cC, 6, .inl rd))] H_13 := hP
  have hD : va_D A [(h0, .inr (6, [.int bg, .ref h1, .ref h2, .ref h3, .ref h4, .ref h5, .ref h6, .ref h7, .int ln, .ref h8, .int (en - x3), .int en, .int sx, .int pl, .int ov, .int tk, .ref h9])), (h1, .inl (cC, 6, .inl na)), (h2, .inl (cI, 2, .inl cu)), (h3, .inl (cI, 48, .inl pa)), (h4, .inl (cI, 48, .inl re)), (h5, .inl (cZ, 48, .inl cl)), (h6, .inl (cI, 48, .inl si)), (h7, .inl (cC, 288, .inl lt)), (h8, .inl (cC, 3000, .inl pg)), (h9, .inl (cC, 6, .inl rd))] := hD
  refine lv_aload_n hx hb dd_M_endsWith_16 rfl (lv_at hl 1 rfl) ?_
  refine va_get (D := (dC, dI)) (ci := 6) (v := .int (en - x3)) (C := cn_M) (T := tt_M) (N := 17) hx hb ht in_M hown hK hP 0 rfl rfl 10 (by decide) (ht _ tw_3_51) (fun _ h9 => h9) rfl dd_M_endsWith_17 ?_
  refine lv_iload_n hx hb dd_M_endsWith_20 rfl (lv_at hl 2 rfl) ?_
  refine lv_icmp_lt (tgt := 36) hx hb dd_M_endsWith_21 (by decide) (fun c_15 => ?_) (fun c_15 => ?_)
  · have hF := jv_t c_15 hF
    refine lv_iconst (v := 0) hx hb dd_M_endsWith_36 (by decide) ?_
    refine lv_istore (lv' := [(5, .int 0), (4, .int mt), (0, .ref h0), (1, .int x1), (2, .int x2), (3, .int x3)]) hx hb dd_M_endsWith_37 hl (by decide) rfl (fun ls hl => ?_)
    refine lv_aload_n hx hb dd_M_endsWith_39 rfl (lv_at hl 2 rfl) ?_
    refine lv_iload hx hb dd_M_endsWith_40 (lv_at hl 1 rfl) ?_
    refine va_put (D := (dC, dI)) (ci := 6) (v := .int mt) (ty := .int) (C := cn_M) (T := tt_M) (N := 17) hx hb ht in_M ty_M tyok_M nm_M hown hK hP hD hS 0 rfl rfl 10 (by decide) (ht _ tw_3_51) (fun _ h9 => h9) rfl (by decide +kernel) rfl rfl (Nat.le_of_ble_eq_true rfl) dd_M_endsWith_42 (fun H_16 locs_17 hP hD hS => ?_)
    have hP : va_P (dC, dI) vwCl [(h0, .inr (6, [.int bg, .ref h1, .ref h2, .ref h3, .ref h4, .ref h5, .ref h6, .ref h7, .int ln, .ref h8, .int mt, .int en, .int sx, .int pl, .int ov, .int tk, .ref h9])), (h1, .inl (cC, 6, .inl na)), (h2, .inl (cI, 2, .inl cu)), (h3, .inl (cI, 48, .inl pa)), (h4, .inl (cI, 48, .inl re)), (h5, .inl (cZ, 48, .inl cl)), (h6, .inl (cI, 48, .inl si)), (h7, .inl (cC, 288, .inl lt)), (h8, .inl (cC, 3000, .inl pg)), (h9, .inl (cC, 6, .inl rd))] H_16 := hP
    have hD : va_D A [(h0, .inr (6, [.int bg, .ref h1, .ref h2, .ref h3, .ref h4, .ref h5, .ref h6, .ref h7, .int ln, .ref h8, .int mt, .int en, .int sx, .int pl, .int ov, .int tk, .ref h9])), (h1, .inl (cC, 6, .inl na)), (h2, .inl (cI, 2, .inl cu)), (h3, .inl (cI, 48, .inl pa)), (h4, .inl (cI, 48, .inl re)), (h5, .inl (cZ, 48, .inl cl)), (h6, .inl (cI, 48, .inl si)), (h7, .inl (cC, 288, .inl lt)), (h8, .inl (cC, 3000, .inl pg)), (h9, .inl (cC, 6, .inl rd))] := hD
    refine lv_iload hx hb dd_M_endsWith_45 (lv_at hl 0 rfl) ?_
    subst hQ
    obtain rfl := Option.some.inj hF
    exact W.zret (v := 0) hx hb hr rfl (fun t ht hW => ⟨⟨0, (), rfl, rfl, by rw [ht]; exact hP, va_K.moved hW.alike hK, hD⟩, hS.F ht⟩) hS.2.2 dd_M_endsWith_47
  · have hF := jv_f c_15 hF
    refine lv_aload_n hx hb dd_M_endsWith_24 rfl (lv_at hl 1 rfl) ?_
    refine lv_iload_n hx hb dd_M_endsWith_25 rfl (lv_at hl 3 rfl) ?_
    obtain ⟨o_26, ho_26, hF⟩ := jv_bi hF
    refine jv_mi (wr := []) (w1 := [(h0, .inr (6, [.int bg, .ref h1, .ref h2, .ref h3, .ref h4, .ref h5, .ref h6, .ref h7, .int ln, .ref h8, .int o_26.2, .int en, .int sx, .int pl, .int ov, .int tk, .ref h9])), (h1, .inl (cC, 6, .inl na)), (h2, .inl (cI, 2, .inl cu)), (h3, .inl (cI, 48, .inl pa)), (h4, .inl (cI, 48, .inl re)), (h5, .inl (cZ, 48, .inl cl)), (h6, .inl (cI, 48, .inl si)), (h7, .inl (cC, 288, .inl lt)), (h8, .inl (cC, 3000, .inl pg)), (h9, .inl (cC, 6, .inl rd))]) (va_runV (C := cn_M) (As := [.int x2]) (rest := []) ⟨hx, hb, hml, hown, ht⟩ (c_M_eat l dC dI cI cL cC cZ h0 h1 h2 h3 h4 h5 h6 h7 h8 h9 H_13.size bg ln (en - x3) en sx pl ov tk na cu pa re cl si lt pg rd x2 _ ho_26) (cwV 1 ht (gi_V tw_3_217 tw_3_219 tw_p_29 tw_1_4 tw_3_220) rfl rfl rfl (by decide +kernel) ⟨Nat.le_of_ble_eq_true rfl, Nat.le_of_ble_eq_true rfl⟩) (jv_pv hK hP hD [0, 1, 2, 3, 4, 5, 6, 7, 8, 9] rfl (by decide) rfl (va_recv hK hP (ci := 6) (q0 := 0) rfl rfl)) rfl rfl hl.1 rfl (lv_room (Nat.le_of_ble_eq_true rfl)) dd_M_endsWith_26 ⟨Nat.le_of_ble_eq_true rfl, Nat.le_of_ble_eq_true rfl⟩) hP hD hS hA [0, 1, 2, 3, 4, 5, 6, 7, 8, 9] [] rfl rfl (by decide) (by decide) (fun H_18 locs_19 hP hD hS => ?_)
    have hP : va_P (dC, dI) vwCl [(h0, .inr (6, [.int bg, .ref h1, .ref h2, .ref h3, .ref h4, .ref h5, .ref h6, .ref h7, .int ln, .ref h8, .int o_26.2, .int en, .int sx, .int pl, .int ov, .int tk, .ref h9])), (h1, .inl (cC, 6, .inl na)), (h2, .inl (cI, 2, .inl cu)), (h3, .inl (cI, 48, .inl pa)), (h4, .inl (cI, 48, .inl re)), (h5, .inl (cZ, 48, .inl cl)), (h6, .inl (cI, 48, .inl si)), (h7, .inl (cC, 288, .inl lt)), (h8, .inl (cC, 3000, .inl pg)), (h9, .inl (cC, 6, .inl rd))] H_18 := hP.sub [0, 1, 2, 3, 4, 5, 6, 7, 8, 9] rfl
    have hD : va_D A [(h0, .inr (6, [.int bg, .ref h1, .ref h2, .ref h3, .ref h4, .ref h5, .ref h6, .ref h7, .int ln, .ref h8, .int o_26.2, .int en, .int sx, .int pl, .int ov, .int tk, .ref h9])), (h1, .inl (cC, 6, .inl na)), (h2, .inl (cI, 2, .inl cu)), (h3, .inl (cI, 48, .inl pa)), (h4, .inl (cI, 48, .inl re)), (h5, .inl (cZ, 48, .inl cl)), (h6, .inl (cI, 48, .inl si)), (h7, .inl (cC, 288, .inl lt)), (h8, .inl (cC, 3000, .inl pg)), (h9, .inl (cC, 6, .inl rd))] := hD.sub [0, 1, 2, 3, 4, 5, 6, 7, 8, 9] (by decide) rfl
    refine lv_if_eq (tgt := 36) hx hb dd_M_endsWith_29 (by decide) (fun c_20 => ?_) (fun c_20 => ?_)
    · have hF := jv_t c_20 hF
      refine lv_iconst (v := 0) hx hb dd_M_endsWith_36 (by decide) ?_
      refine lv_istore (lv' := [(5, .int 0), (4, .int mt), (0, .ref h0), (1, .int x1), (2, .int x2), (3, .int x3)]) hx hb dd_M_endsWith_37 hl (by decide) rfl (fun ls hl => ?_)
      refine lv_aload_n hx hb dd_M_endsWith_39 rfl (lv_at hl 2 rfl) ?_
      refine lv_iload hx hb dd_M_endsWith_40 (lv_at hl 1 rfl) ?_
      refine va_put (D := (dC, dI)) (ci := 6) (v := .int mt) (ty := .int) (C := cn_M) (T := tt_M) (N := 17) hx hb ht in_M ty_M tyok_M nm_M hown hK hP hD hS 0 rfl rfl 10 (by decide) (ht _ tw_3_51) (fun _ h9 => h9) rfl (by decide +kernel) rfl rfl (Nat.le_of_ble_eq_true rfl) dd_M_endsWith_42 (fun H_21 locs_22 hP hD hS => ?_)
      have hP : va_P (dC, dI) vwCl [(h0, .inr (6, [.int bg, .ref h1, .ref h2, .ref h3, .ref h4, .ref h5, .ref h6, .ref h7, .int ln, .ref h8, .int mt, .int en, .int sx, .int pl, .int ov, .int tk, .ref h9])), (h1, .inl (cC, 6, .inl na)), (h2, .inl (cI, 2, .inl cu)), (h3, .inl (cI, 48, .inl pa)), (h4, .inl (cI, 48, .inl re)), (h5, .inl (cZ, 48, .inl cl)), (h6, .inl (cI, 48, .inl si)), (h7, .inl (cC, 288, .inl lt)), (h8, .inl (cC, 3000, .inl pg)), (h9, .inl (cC, 6, .inl rd))] H_21 := hP
      have hD : va_D A [(h0, .inr (6, [.int bg, .ref h1, .ref h2, .ref h3, .ref h4, .ref h5, .ref h6, .ref h7, .int ln, .ref h8, .int mt, .int en, .int sx, .int pl, .int ov, .int tk, .ref h9])), (h1, .inl (cC, 6, .inl na)), (h2, .inl (cI, 2, .inl cu)), (h3, .inl (cI, 48, .inl pa)), (h4, .inl (cI, 48, .inl re)), (h5, .inl (cZ, 48, .inl cl)), (h6, .inl (cI, 48, .inl si)), (h7, .inl (cC, 288, .inl lt)), (h8, .inl (cC, 3000, .inl pg)), (h9, .inl (cC, 6, .inl rd))] := hD
      refine lv_iload hx hb dd_M_endsWith_45 (lv_at hl 0 rfl) ?_
      subst hQ
      obtain rfl := Option.some.inj hF
      exact W.zret (v := 0) hx hb hr rfl (fun t ht hW => ⟨⟨0, (), rfl, rfl, by rw [ht]; exact hP, va_K.moved hW.alike hK, hD⟩, hS.F ht⟩) hS.2.2 dd_M_endsWith_47
    · have hF := jv_f c_20 hF
      refine lv_iconst (v := 1) hx hb dd_M_endsWith_32 (by decide) ?_
      refine lv_goto (tgt := 37) hx hb dd_M_endsWith_33 (by decide) ?_
      refine lv_istore (lv' := [(5, .int 1), (4, .int mt), (0, .ref h0), (1, .int x1), (2, .int x2), (3, .int x3)]) hx hb dd_M_endsWith_37 hl (by decide) rfl (fun ls hl => ?_)
      refine lv_aload_n hx hb dd_M_endsWith_39 rfl (lv_at hl 2 rfl) ?_
      refine lv_iload hx hb dd_M_endsWith_40 (lv_at hl 1 rfl) ?_
      refine va_put (D := (dC, dI)) (ci := 6) (v := .int mt) (ty := .int) (C := cn_M) (T := tt_M) (N := 17) hx hb ht in_M ty_M tyok_M nm_M hown hK hP hD hS 0 rfl rfl 10 (by decide) (ht _ tw_3_51) (fun _ h9 => h9) rfl (by decide +kernel) rfl rfl (Nat.le_of_ble_eq_true rfl) dd_M_endsWith_42 (fun H_23 locs_24 hP hD hS => ?_)
      have hP : va_P (dC, dI) vwCl [(h0, .inr (6, [.int bg, .ref h1, .ref h2, .ref h3, .ref h4, .ref h5, .ref h6, .ref h7, .int ln, .ref h8, .int mt, .int en, .int sx, .int pl, .int ov, .int tk, .ref h9])), (h1, .inl (cC, 6, .inl na)), (h2, .inl (cI, 2, .inl cu)), (h3, .inl (cI, 48, .inl pa)), (h4, .inl (cI, 48, .inl re)), (h5, .inl (cZ, 48, .inl cl)), (h6, .inl (cI, 48, .inl si)), (h7, .inl (cC, 288, .inl lt)), (h8, .inl (cC, 3000, .inl pg)), (h9, .inl (cC, 6, .inl rd))] H_23 := hP
      have hD : va_D A [(h0, .inr (6, [.int bg, .ref h1, .ref h2, .ref h3, .ref h4, .ref h5, .ref h6, .ref h7, .int ln, .ref h8, .int mt, .int en, .int sx, .int pl, .int ov, .int tk, .ref h9])), (h1, .inl (cC, 6, .inl na)), (h2, .inl (cI, 2, .inl cu)), (h3, .inl (cI, 48, .inl pa)), (h4, .inl (cI, 48, .inl re)), (h5, .inl (cZ, 48, .inl cl)), (h6, .inl (cI, 48, .inl si)), (h7, .inl (cC, 288, .inl lt)), (h8, .inl (cC, 3000, .inl pg)), (h9, .inl (cC, 6, .inl rd))] := hD
      refine lv_iload hx hb dd_M_endsWith_45 (lv_at hl 0 rfl) ?_
      subst hQ
      obtain rfl := Option.some.inj hF
      exact W.zret (v := 1) hx hb hr rfl (fun t ht hW => ⟨⟨1, (), rfl, rfl, by rw [ht]; exact hP, va_K.moved hW.alike hK, hD⟩, hS.F ht⟩) hS.2.2 dd_M_endsWith_47
set_option maxHeartbeats 40000000 in
set_option maxRecDepth 100000 in
theorem c_M_testLine (l : Launch) (dC : Nat → ClassId) (dI : Nat → Nat → Nat) (cI cL cC cZ : ClassId) (h0 h1 h2 h3 h4 h5 h6 h7 h8 h9 : Nat) (sz : Nat) (bg : Int32) (ln : Int32) (mt : Int32) (en : Int32) (sx : Int32) (pl : Int32) (ov : Int32) (tk : Int32) (na : Nat → Int32) (cu : Nat → Int32) (pa : Nat → Int32) (re : Nat → Int32) (cl : Nat → Int32) (si : Nat → Int32) (lt : Nat → Int32) (pg : Nat → Int32) (rd : Nat → Int32) (x1 : Int32) (x2 : Int32) (out : Int32 × Int32 × Int32 × Int32 × (Nat → Int32) × (Nat → Int32) × (Nat → Int32) × (Nat → Int32) × (Nat → Int32) × (Nat → Int32) × (Nat → Int32)) (hF : fn_M_testLine en pg mt sx tk cu pa re cl si lt rd x1 x2 = some out) : Met l yy_M_testLine ws_M_testLine { frames := 4, cells := 0, slots := 0, locals := 92 } (mP_ (dC, dI) (tk_ cI cL cC cZ) [(h0, .inr (6, [.int bg, .ref h1, .ref h2, .ref h3, .ref h4, .ref h5, .ref h6, .ref h7, .int ln, .ref h8, .int mt, .int en, .int sx, .int pl, .int ov, .int tk, .ref h9])), (h1, .inl (cC, 6, .inl na)), (h2, .inl (cI, 2, .inl cu)), (h3, .inl (cI, 48, .inl pa)), (h4, .inl (cI, 48, .inl re)), (h5, .inl (cZ, 48, .inl cl)), (h6, .inl (cI, 48, .inl si)), (h7, .inl (cC, 288, .inl lt)), (h8, .inl (cC, 3000, .inl pg)), (h9, .inl (cC, 6, .inl rd))] sz [.ref h0, .int x1, .int x2]) (va_Qi (fun r (_ : Unit) => r = out.1) (mB_ (dC, dI) (tk_ cI cL cC cZ) [(h0, .inr (6, [.int bg, .ref h1, .ref h2, .ref h3, .ref h4, .ref h5, .ref h6, .ref h7, .int ln, .ref h8, .int out.2.1, .int en, .int out.2.2.1, .int pl, .int ov, .int out.2.2.2.1, .ref h9])), (h1, .inl (cC, 6, .inl na)), (h2, .inl (cI, 2, .inl out.2.2.2.2.1)), (h3, .inl (cI, 48, .inl out.2.2.2.2.2.1)), (h4, .inl (cI, 48, .inl out.2.2.2.2.2.2.1)), (h5, .inl (cZ, 48, .inl out.2.2.2.2.2.2.2.1)), (h6, .inl (cI, 48, .inl out.2.2.2.2.2.2.2.2.1)), (h7, .inl (cC, 288, .inl out.2.2.2.2.2.2.2.2.2.1)), (h8, .inl (cC, 3000, .inl pg)), (h9, .inl (cC, 6, .inl out.2.2.2.2.2.2.2.2.2.2))] (va_A [(h0, .inr (6, [.int bg, .ref h1, .ref h2, .ref h3, .ref h4, .ref h5, .ref h6, .ref h7, .int ln, .ref h8, .int mt, .int en, .int sx, .int pl, .int ov, .int tk, .ref h9])), (h1, .inl (cC, 6, .inl na)), (h2, .inl (cI, 2, .inl cu)), (h3, .inl (cI, 48, .inl pa)), (h4, .inl (cI, 48, .inl re)), (h5, .inl (cZ, 48, .inl cl)), (h6, .inl (cI, 48, .inl si)), (h7, .inl (cC, 288, .inl lt)), (h8, .inl (cC, 3000, .inl pg)), (h9, .inl (cC, 6, .inl rd))] sz)) (va_A [(h0, .inr (6, [.int bg, .ref h1, .ref h2, .ref h3, .ref h4, .ref h5, .ref h6, .ref h7, .int ln, .ref h8, .int mt, .int en, .int sx, .int pl, .int ov, .int tk, .ref h9])), (h1, .inl (cC, 6, .inl na)), (h2, .inl (cI, 2, .inl cu)), (h3, .inl (cI, 48, .inl pa)), (h4, .inl (cI, 48, .inl re)), (h5, .inl (cZ, 48, .inl cl)), (h6, .inl (cI, 48, .inl si)), (h7, .inl (cC, 288, .inl lt)), (h8, .inl (cC, 3000, .inl pg)), (h9, .inl (cC, 6, .inl rd))] sz)) 0 0 (va_A [(h0, .inr (6, [.int bg, .ref h1, .ref h2, .ref h3, .ref h4, .ref h5, .ref h6, .ref h7, .int ln, .ref h8, .int mt, .int en, .int sx, .int pl, .int ov, .int tk, .ref h9])), (h1, .inl (cC, 6, .inl na)), (h2, .inl (cI, 2, .inl cu)), (h3, .inl (cI, 48, .inl pa)), (h4, .inl (cI, 48, .inl re)), (h5, .inl (cZ, 48, .inl cl)), (h6, .inl (cI, 48, .inl si)), (h7, .inl (cC, 288, .inl lt)), (h8, .inl (cC, 3000, .inl pg)), (h9, .inl (cC, 6, .inl rd))] sz) := by
  refine Met.ofW (cc := cc_M_testLine) (maxL := 6) (ret := (some .boolean)) (by decide) rfl ?_
  intro p e s m args below meth c s₁ B hml hv
  obtain ⟨hargs, hsz, hP, hK, hD0⟩ := hv
  have hx := B.exec
  have hb := B.bytes
  have hr := B.returns
  have hts := atoms_spec (ws := ws_M_testLine) B.pre
  have ht : ∀ w ∈ TB_, w.before args s = true := fun w h => hts w (List.mem_cons_of_mem _ h)
  have hown : s.vm.findClass cn_M = some m.cls := findClass_of_methodNamed B.named
  have hlocks := B.notSynchronized
  subst hsz
  have hD := hD0.self (sz := s.heap.size)
  generalize hAe : va_A [(h0, .inr (6, [.int bg, .ref h1, .ref h2, .ref h3, .ref h4, .ref h5, .ref h6, .ref h7, .int ln, .ref h8, .int mt, .int en, .int sx, .int pl, .int ov, .int tk, .ref h9])), (h1, .inl (cC, 6, .inl na)), (h2, .inl (cI, 2, .inl cu)), (h3, .inl (cI, 48, .inl pa)), (h4, .inl (cI, 48, .inl re)), (h5, .inl (cZ, 48, .inl cl)), (h6, .inl (cI, 48, .inl si)), (h7, .inl (cC, 288, .inl lt)), (h8, .inl (cC, 3000, .inl pg)), (h9, .inl (cC, 6, .inl rd))] s.heap.size = A at hD ⊢
  have hA : ∀ q : Nat, s.heap.size ≤ q → A q := fun q h => by rw [← hAe]; exact Or.inr h
  have hS : va_S A s.heap s.heap [] := va_S.rf
  have hP : va_P (dC, dI) vwCl [(h0, .inr (6, [.int bg, .ref h1, .ref h2, .ref h3, .ref h4, .ref h5, .ref h6, .ref h7, .int ln, .ref h8, .int mt, .int en, .int sx, .int pl, .int ov, .int tk, .ref h9])), (h1, .inl (cC, 6, .inl na)), (h2, .inl (cI, 2, .inl cu)), (h3, .inl (cI, 48, .inl pa)), (h4, .inl (cI, 48, .inl re)), (h5, .inl (cZ, 48, .inl cl)), (h6, .inl (cI, 48, .inl si)), (h7, .inl (cC, 288, .inl lt)), (h8, .inl (cC, 3000, .inl pg)), (h9, .inl (cC, 6, .inl rd))] s.heap := hP
  have hl := lv_entry [.ref h0, .int x1, .int x2] (n := 6) (Nat.le_of_ble_eq_true rfl)
  have he : entryFrame m args 6 = _ := (congrArg (fun a => entryFrame m a 6) hargs).trans (lg_entry_eq m [.ref h0, .int x1, .int x2] 6)
  rw [he]
  generalize (lg_sl [.ref h0, .int x1, .int x2] ++ List.replicate (6 - (lg_sl [.ref h0, .int x1, .int x2]).length) Slot.unset).toArray = ls at hl ⊢
  have hl : lv_has ls 6 [(0, .ref h0), (1, .int x1), (2, .int x2)] := hl
  generalize hQ : MQ below _ args s _ _ _ = Q
  have bl139 : ∀ (mt : Int32) (sx : Int32) (tk : Int32) (cu : Nat → Int32) (pa : Nat → Int32) (re : Nat → Int32) (cl : Nat → Int32) (si : Nat → Int32) (lt : Nat → Int32) (rd : Nat → Int32) (y1 : Int32), fb_M_testLine_139 en pg  mt sx tk cu pa re cl si lt rd y1 = some out → ∀ (H : Heap) (locs : List Loc), va_P (dC, dI) vwCl [(h0, .inr (6, [.int bg, .ref h1, .ref h2, .ref h3, .ref h4, .ref h5, .ref h6, .ref h7, .int ln, .ref h8, .int mt, .int en, .int sx, .int pl, .int ov, .int tk, .ref h9])), (h1, .inl (cC, 6, .inl na)), (h2, .inl (cI, 2, .inl cu)), (h3, .inl (cI, 48, .inl pa)), (h4, .inl (cI, 48, .inl re)), (h5, .inl (cZ, 48, .inl cl)), (h6, .inl (cI, 48, .inl si)), (h7, .inl (cC, 288, .inl lt)), (h8, .inl (cC, 3000, .inl pg)), (h9, .inl (cC, 6, .inl rd))] H → va_D A [(h0, .inr (6, [.int bg, .ref h1, .ref h2, .ref h3, .ref h4, .ref h5, .ref h6, .ref h7, .int ln, .ref h8, .int mt, .int en, .int sx, .int pl, .int ov, .int tk, .ref h9])), (h1, .inl (cC, 6, .inl na)), (h2, .inl (cI, 2, .inl cu)), (h3, .inl (cI, 48, .inl pa)), (h4, .inl (cI, 48, .inl re)), (h5, .inl (cZ, 48, .inl cl)), (h6, .inl (cI, 48, .inl si)), (h7, .inl (cC, 288, .inl lt)), (h8, .inl (cC, 3000, .inl pg)), (h9, .inl (cC, 6, .inl rd))] → va_S A s.heap H locs → ∀ ls : Array Slot, lv_has ls 6 [] → W p l e (headSpec ws_M_testLine { frames := 4, cells := 0, slots := 0, locals := 92 }).room s m args below meth c H locs 0 0 Q (F0 m 139 ls [.int y1, .ref h0]) := by
    intro mt sx tk cu pa re cl si lt rd y1 hF H locs hP hD hS ls hl
    unfold fb_M_testLine_139 at hF
    obtain ⟨o_139, ho_139, hF⟩ := jv_bi hF
    refine jv_mi (wr := []) (w1 := [(h0, .inr (6, [.int bg, .ref h1, .ref h2, .ref h3, .ref h4, .ref h5, .ref h6, .ref h7, .int ln, .ref h8, .int mt, .int en, .int o_139.2.1, .int pl, .int ov, .int tk, .ref h9])), (h1, .inl (cC, 6, .inl na)), (h2, .inl (cI, 2, .inl o_139.2.2.1)), (h3, .inl (cI, 48, .inl o_139.2.2.2.1)), (h4, .inl (cI, 48, .inl o_139.2.2.2.2.1)), (h5, .inl (cZ, 48, .inl o_139.2.2.2.2.2.1)), (h6, .inl (cI, 48, .inl o_139.2.2.2.2.2.2.1)), (h7, .inl (cC, 288, .inl o_139.2.2.2.2.2.2.2)), (h8, .inl (cC, 3000, .inl pg)), (h9, .inl (cC, 6, .inl rd))]) (va_runV (C := cn_M) (As := [.int y1]) (rest := []) ⟨hx, hb, hml, hown, ht⟩ (c_M_accept l dC dI cI cL cC cZ h0 h1 h2 h3 h4 h5 h6 h7 h8 h9 H.size bg ln mt en sx pl ov tk na cu pa re cl si lt pg rd y1 _ ho_139) (cwV 1 ht (gi_V tw_4_21 tw_4_23 tw_p_40 tw_1_4 tw_4_24) rfl rfl rfl (by decide +kernel) ⟨Nat.le_of_ble_eq_true rfl, Nat.le_of_ble_eq_true rfl⟩) (jv_pv hK hP hD [0, 1, 2, 3, 4, 5, 6, 7, 8, 9] rfl (by decide) rfl (va_recv hK hP (ci := 6) (q0 := 0) rfl rfl)) rfl rfl hl.1 rfl (lv_room (Nat.le_of_ble_eq_true rfl)) dd_M_testLine_139 ⟨Nat.le_of_ble_eq_true rfl, Nat.le_of_ble_eq_true rfl⟩) hP hD hS hA [0, 1, 2, 3, 4, 5, 6, 7, 8, 9] [] rfl rfl (by decide) (by decide) (fun H_31 locs_32 hP hD hS => ?_)
    have hP : va_P (dC, dI) vwCl [(h0, .inr (6, [.int bg, .ref h1, .ref h2, .ref h3, .ref h4, .ref h5, .ref h6, .ref h7, .int ln, .ref h8, .int mt, .int en, .int o_139.2.1, .int pl, .int ov, .int tk, .ref h9])), (h1, .inl (cC, 6, .inl na)), (h2, .inl (cI, 2, .inl o_139.2.2.1)), (h3, .inl (cI, 48, .inl o_139.2.2.2.1)), (h4, .inl (cI, 48, .inl o_139.2.2.2.2.1)), (h5, .inl (cZ, 48, .inl o_139.2.2.2.2.2.1)), (h6, .inl (cI, 48, .inl o_139.2.2.2.2.2.2.1)), (h7, .inl (cC, 288, .inl o_139.2.2.2.2.2.2.2)), (h8, .inl (cC, 3000, .inl pg)), (h9, .inl (cC, 6, .inl rd))] H_31 := hP.sub [0, 1, 2, 3, 4, 5, 6, 7, 8, 9] rfl
    have hD : va_D A [(h0, .inr (6, [.int bg, .ref h1, .ref h2, .ref h3, .ref h4, .ref h5, .ref h6, .ref h7, .int ln, .ref h8, .int mt, .int en, .int o_139.2.1, .int pl, .int ov, .int tk, .ref h9])), (h1, .inl (cC, 6, .inl na)), (h2, .inl (cI, 2, .inl o_139.2.2.1)), (h3, .inl (cI, 48, .inl o_139.2.2.2.1)), (h4, .inl (cI, 48, .inl o_139.2.2.2.2.1)), (h5, .inl (cZ, 48, .inl o_139.2.2.2.2.2.1)), (h6, .inl (cI, 48, .inl o_139.2.2.2.2.2.2.1)), (h7, .inl (cC, 288, .inl o_139.2.2.2.2.2.2.2)), (h8, .inl (cC, 3000, .inl pg)), (h9, .inl (cC, 6, .inl rd))] := hD.sub [0, 1, 2, 3, 4, 5, 6, 7, 8, 9] (by decide) rfl
    refine lv_if_eq (tgt := 149) hx hb dd_M_testLine_142 (by decide) (fun c_33 => ?_) (fun c_33 => ?_)
    · have hF := jv_t c_33 hF
      refine lv_iconst (v := 0) hx hb dd_M_testLine_149 (by decide) ?_
      subst hQ
      obtain rfl := Option.some.inj hF
      exact W.zret (v := 0) hx hb hr rfl (fun t ht hW => ⟨⟨0, (), rfl, rfl, by rw [ht]; exact hP, va_K.moved hW.alike hK, hD⟩, hS.F ht⟩) hS.2.2 dd_M_testLine_150
    · have hF := jv_f c_33 hF
      refine lv_iconst (v := 1) hx hb dd_M_testLine_145 (by decide) ?_
      refine lv_goto (tgt := 150) hx hb dd_M_testLine_146 (by decide) ?_
      subst hQ
      obtain rfl := Option.some.inj hF
      exact W.zret (v := 1) hx hb hr rfl (fun t ht hW => ⟨⟨1, (), rfl, rfl, by rw [ht]; exact hP, va_K.moved hW.alike hK, hD⟩, hS.F ht⟩) hS.2.2 dd_M_testLine_150
  have bl106 : ∀ (mt : Int32) (sx : Int32) (tk : Int32) (cu : Nat → Int32) (pa : Nat → Int32) (re : Nat → Int32) (cl : Nat → Int32) (si : Nat → Int32) (lt : Nat → Int32) (rd : Nat → Int32) (x3 : Int32) (x5 : Int32) (y1 : Int32), fb_M_testLine_106 en pg  mt sx tk cu pa re cl si lt rd x3 x5 y1 = some out → ∀ (H : Heap) (locs : List Loc), va_P (dC, dI) vwCl [(h0, .inr (6, [.int bg, .ref h1, .ref h2, .ref h3, .ref h4, .ref h5, .ref h6, .ref h7, .int ln, .ref h8, .int mt, .int en, .int sx, .int pl, .int ov, .int tk, .ref h9])), (h1, .inl (cC, 6, .inl na)), (h2, .inl (cI, 2, .inl cu)), (h3, .inl (cI, 48, .inl pa)), (h4, .inl (cI, 48, .inl re)), (h5, .inl (cZ, 48, .inl cl)), (h6, .inl (cI, 48, .inl si)), (h7, .inl (cC, 288, .inl lt)), (h8, .inl (cC, 3000, .inl pg)), (h9, .inl (cC, 6, .inl rd))] H → va_D A [(h0, .inr (6, [.int bg, .ref h1, .ref h2, .ref h3, .ref h4, .ref h5, .ref h6, .ref h7, .int ln, .ref h8, .int mt, .int en, .int sx, .int pl, .int ov, .int tk, .ref h9])), (h1, .inl (cC, 6, .inl na)), (h2, .inl (cI, 2, .inl cu)), (h3, .inl (cI, 48, .inl pa)), (h4, .inl (cI, 48, .inl re)), (h5, .inl (cZ, 48, .inl cl)), (h6, .inl (cI, 48, .inl si)), (h7, .inl (cC, 288, .inl lt)), (h8, .inl (cC, 3000, .inl pg)), (h9, .inl (cC, 6, .inl rd))] → va_S A s.heap H locs → ∀ ls : Array Slot, lv_has ls 6 [(0, .ref h0), (3, .int x3), (5, .int x5)] → W p l e (headSpec ws_M_testLine { frames := 4, cells := 0, slots := 0, locals := 92 }).room s m args below meth c H locs 0 0 Q (F0 m 106 ls [.int y1, .ref h0]) := by
    intro mt sx tk cu pa re cl si lt rd x3 x5 y1 hF H locs hP hD hS ls hl
    unfold fb_M_testLine_106 at hF
    obtain ⟨o_106, ho_106, hF⟩ := jv_bi hF
    refine jv_mi (wr := []) (w1 := [(h0, .inr (6, [.int bg, .ref h1, .ref h2, .ref h3, .ref h4, .ref h5, .ref h6, .ref h7, .int ln, .ref h8, .int o_106.2.1, .int en, .int sx, .int pl, .int ov, .int o_106.2.2.1, .ref h9])), (h1, .inl (cC, 6, .inl na)), (h2, .inl (cI, 2, .inl cu)), (h3, .inl (cI, 48, .inl pa)), (h4, .inl (cI, 48, .inl re)), (h5, .inl (cZ, 48, .inl cl)), (h6, .inl (cI, 48, .inl si)), (h7, .inl (cC, 288, .inl lt)), (h8, .inl (cC, 3000, .inl pg)), (h9, .inl (cC, 6, .inl o_106.2.2.2))]) (va_runV (C := cn_M) (As := [.int y1]) (rest := []) ⟨hx, hb, hml, hown, ht⟩ (c_M_eatName l dC dI cI cL cC cZ h0 h1 h2 h3 h4 h5 h6 h7 h8 h9 H.size bg ln mt en sx pl ov tk na cu pa re cl si lt pg rd y1 _ ho_106) (cwV 1 ht (gi_V tw_4_1 tw_4_3 tw_p_35 tw_1_4 tw_4_4) rfl rfl rfl (by decide +kernel) ⟨Nat.le_of_ble_eq_true rfl, Nat.le_of_ble_eq_true rfl⟩) (jv_pv hK hP hD [0, 1, 2, 3, 4, 5, 6, 7, 8, 9] rfl (by decide) rfl (va_recv hK hP (ci := 6) (q0 := 0) rfl rfl)) rfl rfl hl.1 rfl (lv_room (Nat.le_of_ble_eq_true rfl)) dd_M_testLine_106 ⟨Nat.le_of_ble_eq_true rfl, Nat.le_of_ble_eq_true rfl⟩) hP hD hS hA [0, 1, 2, 3, 4, 5, 6, 7, 8, 9] [] rfl rfl (by decide) (by decide) (fun H_34 locs_35 hP hD hS => ?_)
    have hP : va_P (dC, dI) vwCl [(h0, .inr (6, [.int bg, .ref h1, .ref h2, .ref h3, .ref h4, .ref h5, .ref h6, .ref h7, .int ln, .ref h8, .int o_106.2.1, .int en, .int sx, .int pl, .int ov, .int o_106.2.2.1, .ref h9])), (h1, .inl (cC, 6, .inl na)), (h2, .inl (cI, 2, .inl cu)), (h3, .inl (cI, 48, .inl pa)), (h4, .inl (cI, 48, .inl re)), (h5, .inl (cZ, 48, .inl cl)), (h6, .inl (cI, 48, .inl si)), (h7, .inl (cC, 288, .inl lt)), (h8, .inl (cC, 3000, .inl pg)), (h9, .inl (cC, 6, .inl o_106.2.2.2))] H_34 := hP.sub [0, 1, 2, 3, 4, 5, 6, 7, 8, 9] rfl
    have hD : va_D A [(h0, .inr (6, [.int bg, .ref h1, .ref h2, .ref h3, .ref h4, .ref h5, .ref h6, .ref h7, .int ln, .ref h8, .int o_106.2.1, .int en, .int sx, .int pl, .int ov, .int o_106.2.2.1, .ref h9])), (h1, .inl (cC, 6, .inl na)), (h2, .inl (cI, 2, .inl cu)), (h3, .inl (cI, 48, .inl pa)), (h4, .inl (cI, 48, .inl re)), (h5, .inl (cZ, 48, .inl cl)), (h6, .inl (cI, 48, .inl si)), (h7, .inl (cC, 288, .inl lt)), (h8, .inl (cC, 3000, .inl pg)), (h9, .inl (cC, 6, .inl o_106.2.2.2))] := hD.sub [0, 1, 2, 3, 4, 5, 6, 7, 8, 9] (by decide) rfl
    refine lv_if_eq (tgt := 149) hx hb dd_M_testLine_109 (by decide) (fun c_36 => ?_) (fun c_36 => ?_)
    · have hF := jv_t c_36 hF
      refine lv_iconst (v := 0) hx hb dd_M_testLine_149 (by decide) ?_
      subst hQ
      obtain rfl := Option.some.inj hF
      exact W.zret (v := 0) hx hb hr rfl (fun t ht hW => ⟨⟨0, (), rfl, rfl, by rw [ht]; exact hP, va_K.moved hW.alike hK, hD⟩, hS.F ht⟩) hS.2.2 dd_M_testLine_150
    · have hF := jv_f c_36 hF
      refine lv_aload_n hx hb dd_M_testLine_112 rfl (lv_at hl 0 rfl) ?_
      refine lv_iload hx hb dd_M_testLine_113 (lv_at hl 2 rfl) ?_
      refine lv_if_eq (tgt := 130) hx hb dd_M_testLine_115 (by decide) (fun c_37 => ?_) (fun c_37 => ?_)
      · have hF := jv_t c_37 hF
        refine lv_iload_n hx hb dd_M_testLine_130 rfl (lv_at hl 1 rfl) ?_
        refine lv_if_eq (tgt := 138) hx hb dd_M_testLine_131 (by decide) (fun c_38 => ?_) (fun c_38 => ?_)
        · have hF := jv_t c_38 hF
          refine lv_iconst (v := 1) hx hb dd_M_testLine_138 (by decide) ?_
          exact bl139 o_106.2.1 sx o_106.2.2.1 cu pa re cl si lt o_106.2.2.2 1 hF H_34 locs_35 hP hD hS ls (lv_sub hl [] rfl)
        · have hF := jv_f c_38 hF
          refine lv_iconst (v := 0) hx hb dd_M_testLine_134 (by decide) ?_
          refine lv_goto (tgt := 139) hx hb dd_M_testLine_135 (by decide) ?_
          exact bl139 o_106.2.1 sx o_106.2.2.1 cu pa re cl si lt o_106.2.2.2 0 hF H_34 locs_35 hP hD hS ls (lv_sub hl [] rfl)
      · have hF := jv_f c_37 hF
        refine lv_iload_n hx hb dd_M_testLine_118 rfl (lv_at hl 1 rfl) ?_
        refine lv_if_eq (tgt := 126) hx hb dd_M_testLine_119 (by decide) (fun c_39 => ?_) (fun c_39 => ?_)
        · have hF := jv_t c_39 hF
          refine lv_iconst (v := 3) hx hb dd_M_testLine_126 (by decide) ?_
          refine lv_goto (tgt := 139) hx hb dd_M_testLine_127 (by decide) ?_
          exact bl139 o_106.2.1 sx o_106.2.2.1 cu pa re cl si lt o_106.2.2.2 3 hF H_34 locs_35 hP hD hS ls (lv_sub hl [] rfl)
        · have hF := jv_f c_39 hF
          refine lv_iconst (v := 2) hx hb dd_M_testLine_122 (by decide) ?_
          refine lv_goto (tgt := 139) hx hb dd_M_testLine_123 (by decide) ?_
          exact bl139 o_106.2.1 sx o_106.2.2.1 cu pa re cl si lt o_106.2.2.2 2 hF H_34 locs_35 hP hD hS ls (lv_sub hl [] rfl)
  have bl79 : ∀ (mt : Int32) (sx : Int32) (tk : Int32) (cu : Nat → Int32) (pa : Nat → Int32) (re : Nat → Int32) (cl : Nat → Int32) (si : Nat → Int32) (lt : Nat → Int32) (rd : Nat → Int32) (x3 : Int32) (y1 : Int32) (y2 : Int32), fb_M_testLine_79 en pg  mt sx tk cu pa re cl si lt rd x3 y1 y2 = some out → ∀ (H : Heap) (locs : List Loc), va_P (dC, dI) vwCl [(h0, .inr (6, [.int bg, .ref h1, .ref h2, .ref h3, .ref h4, .ref h5, .ref h6, .ref h7, .int ln, .ref h8, .int mt, .int en, .int sx, .int pl, .int ov, .int tk, .ref h9])), (h1, .inl (cC, 6, .inl na)), (h2, .inl (cI, 2, .inl cu)), (h3, .inl (cI, 48, .inl pa)), (h4, .inl (cI, 48, .inl re)), (h5, .inl (cZ, 48, .inl cl)), (h6, .inl (cI, 48, .inl si)), (h7, .inl (cC, 288, .inl lt)), (h8, .inl (cC, 3000, .inl pg)), (h9, .inl (cC, 6, .inl rd))] H → va_D A [(h0, .inr (6, [.int bg, .ref h1, .ref h2, .ref h3, .ref h4, .ref h5, .ref h6, .ref h7, .int ln, .ref h8, .int mt, .int en, .int sx, .int pl, .int ov, .int tk, .ref h9])), (h1, .inl (cC, 6, .inl na)), (h2, .inl (cI, 2, .inl cu)), (h3, .inl (cI, 48, .inl pa)), (h4, .inl (cI, 48, .inl re)), (h5, .inl (cZ, 48, .inl cl)), (h6, .inl (cI, 48, .inl si)), (h7, .inl (cC, 288, .inl lt)), (h8, .inl (cC, 3000, .inl pg)), (h9, .inl (cC, 6, .inl rd))] → va_S A s.heap H locs → ∀ ls : Array Slot, lv_has ls 6 [(0, .ref h0), (3, .int x3)] → W p l e (headSpec ws_M_testLine { frames := 4, cells := 0, slots := 0, locals := 92 }).room s m args below meth c H locs 0 0 Q (F0 m 79 ls [.int y2, .int y1, .ref h0]) := by
    intro mt sx tk cu pa re cl si lt rd x3 y1 y2 hF H locs hP hD hS ls hl
    unfold fb_M_testLine_79 at hF
    refine lv_bipush (v := 7) hx hb dd_M_testLine_79 (by decide) ?_
    obtain ⟨o_81, ho_81, hF⟩ := jv_bi hF
    refine jv_mi (wr := []) (w1 := [(h0, .inr (6, [.int bg, .ref h1, .ref h2, .ref h3, .ref h4, .ref h5, .ref h6, .ref h7, .int ln, .ref h8, .int o_81.2, .int en, .int sx, .int pl, .int ov, .int tk, .ref h9])), (h1, .inl (cC, 6, .inl na)), (h2, .inl (cI, 2, .inl cu)), (h3, .inl (cI, 48, .inl pa)), (h4, .inl (cI, 48, .inl re)), (h5, .inl (cZ, 48, .inl cl)), (h6, .inl (cI, 48, .inl si)), (h7, .inl (cC, 288, .inl lt)), (h8, .inl (cC, 3000, .inl pg)), (h9, .inl (cC, 6, .inl rd))]) (va_runV (C := cn_M) (As := [.int y1, .int y2, .int 7]) (rest := []) ⟨hx, hb, hml, hown, ht⟩ (c_M_endsWith l dC dI cI cL cC cZ h0 h1 h2 h3 h4 h5 h6 h7 h8 h9 H.size bg ln mt en sx pl ov tk na cu pa re cl si lt pg rd y1 y2 7 _ ho_81) (cwV 3 ht (gi_V tw_4_29 tw_4_31 tw_p_42 tw_1_4 tw_4_32) rfl rfl rfl (by decide +kernel) ⟨Nat.le_of_ble_eq_true rfl, Nat.le_of_ble_eq_true rfl⟩) (jv_pv hK hP hD [0, 1, 2, 3, 4, 5, 6, 7, 8, 9] rfl (by decide) rfl (va_recv hK hP (ci := 6) (q0 := 0) rfl rfl)) rfl rfl hl.1 rfl (lv_room (Nat.le_of_ble_eq_true rfl)) dd_M_testLine_81 ⟨Nat.le_of_ble_eq_true rfl, Nat.le_of_ble_eq_true rfl⟩) hP hD hS hA [0, 1, 2, 3, 4, 5, 6, 7, 8, 9] [] rfl rfl (by decide) (by decide) (fun H_40 locs_41 hP hD hS => ?_)
    have hP : va_P (dC, dI) vwCl [(h0, .inr (6, [.int bg, .ref h1, .ref h2, .ref h3, .ref h4, .ref h5, .ref h6, .ref h7, .int ln, .ref h8, .int o_81.2, .int en, .int sx, .int pl, .int ov, .int tk, .ref h9])), (h1, .inl (cC, 6, .inl na)), (h2, .inl (cI, 2, .inl cu)), (h3, .inl (cI, 48, .inl pa)), (h4, .inl (cI, 48, .inl re)), (h5, .inl (cZ, 48, .inl cl)), (h6, .inl (cI, 48, .inl si)), (h7, .inl (cC, 288, .inl lt)), (h8, .inl (cC, 3000, .inl pg)), (h9, .inl (cC, 6, .inl rd))] H_40 := hP.sub [0, 1, 2, 3, 4, 5, 6, 7, 8, 9] rfl
    have hD : va_D A [(h0, .inr (6, [.int bg, .ref h1, .ref h2, .ref h3, .ref h4, .ref h5, .ref h6, .ref h7, .int ln, .ref h8, .int o_81.2, .int en, .int sx, .int pl, .int ov, .int tk, .ref h9])), (h1, .inl (cC, 6, .inl na)), (h2, .inl (cI, 2, .inl cu)), (h3, .inl (cI, 48, .inl pa)), (h4, .inl (cI, 48, .inl re)), (h5, .inl (cZ, 48, .inl cl)), (h6, .inl (cI, 48, .inl si)), (h7, .inl (cC, 288, .inl lt)), (h8, .inl (cC, 3000, .inl pg)), (h9, .inl (cC, 6, .inl rd))] := hD.sub [0, 1, 2, 3, 4, 5, 6, 7, 8, 9] (by decide) rfl
    refine lv_istore (lv' := [(5, .int o_81.1), (0, .ref h0), (3, .int x3)]) hx hb dd_M_testLine_84 hl (by decide) rfl (fun ls hl => ?_)
    refine lv_aload_n hx hb dd_M_testLine_86 rfl (lv_at hl 1 rfl) ?_
    refine lv_iload hx hb dd_M_testLine_87 (lv_at hl 0 rfl) ?_
    refine lv_if_eq (tgt := 102) hx hb dd_M_testLine_89 (by decide) (fun c_42 => ?_) (fun c_42 => ?_)
    · have hF := jv_t c_42 hF
      refine lv_aload_n hx hb dd_M_testLine_102 rfl (lv_at hl 1 rfl) ?_
      refine va_get (D := (dC, dI)) (ci := 6) (v := .int en) (C := cn_M) (T := tt_M) (N := 17) hx hb ht in_M hown hK hP 0 rfl rfl 11 (by decide) (ht _ tw_3_52) (fun _ h9 => h9) rfl dd_M_testLine_103 ?_
      exact bl106 o_81.2 sx tk cu pa re cl si lt rd x3 o_81.1 en hF H_40 locs_41 hP hD hS ls (lv_sub hl [1, 2, 0] rfl)
    · have hF := jv_f c_42 hF
      refine lv_aload_n hx hb dd_M_testLine_92 rfl (lv_at hl 1 rfl) ?_
      refine va_get (D := (dC, dI)) (ci := 6) (v := .int en) (C := cn_M) (T := tt_M) (N := 17) hx hb ht in_M hown hK hP 0 rfl rfl 11 (by decide) (ht _ tw_3_52) (fun _ h9 => h9) rfl dd_M_testLine_93 ?_
      refine lv_bipush (v := 7) hx hb dd_M_testLine_96 (by decide) ?_
      refine lv_isub hx hb dd_M_testLine_98 ?_
      refine lv_goto (tgt := 106) hx hb dd_M_testLine_99 (by decide) ?_
      exact bl106 o_81.2 sx tk cu pa re cl si lt rd x3 o_81.1 (en - 7) hF H_40 locs_41 hP hD hS ls (lv_sub hl [1, 2, 0] rfl)
  have bl44 : ∀ (mt : Int32) (sx : Int32) (tk : Int32) (cu : Nat → Int32) (pa : Nat → Int32) (re : Nat → Int32) (cl : Nat → Int32) (si : Nat → Int32) (lt : Nat → Int32) (rd : Nat → Int32) (x3 : Int32) (x4 : Int32), fb_M_testLine_44 en pg  mt sx tk cu pa re cl si lt rd x3 x4 = some out → ∀ (H : Heap) (locs : List Loc), va_P (dC, dI) vwCl [(h0, .inr (6, [.int bg, .ref h1, .ref h2, .ref h3, .ref h4, .ref h5, .ref h6, .ref h7, .int ln, .ref h8, .int mt, .int en, .int sx, .int pl, .int ov, .int tk, .ref h9])), (h1, .inl (cC, 6, .inl na)), (h2, .inl (cI, 2, .inl cu)), (h3, .inl (cI, 48, .inl pa)), (h4, .inl (cI, 48, .inl re)), (h5, .inl (cZ, 48, .inl cl)), (h6, .inl (cI, 48, .inl si)), (h7, .inl (cC, 288, .inl lt)), (h8, .inl (cC, 3000, .inl pg)), (h9, .inl (cC, 6, .inl rd))] H → va_D A [(h0, .inr (6, [.int bg, .ref h1, .ref h2, .ref h3, .ref h4, .ref h5, .ref h6, .ref h7, .int ln, .ref h8, .int mt, .int en, .int sx, .int pl, .int ov, .int tk, .ref h9])), (h1, .inl (cC, 6, .inl na)), (h2, .inl (cI, 2, .inl cu)), (h3, .inl (cI, 48, .inl pa)), (h4, .inl (cI, 48, .inl re)), (h5, .inl (cZ, 48, .inl cl)), (h6, .inl (cI, 48, .inl si)), (h7, .inl (cC, 288, .inl lt)), (h8, .inl (cC, 3000, .inl pg)), (h9, .inl (cC, 6, .inl rd))] → va_S A s.heap H locs → ∀ ls : Array Slot, lv_has ls 6 [(0, .ref h0), (3, .int x3), (4, .int x4)] → W p l e (headSpec ws_M_testLine { frames := 4, cells := 0, slots := 0, locals := 92 }).room s m args below meth c H locs 0 0 Q (F0 m 44 ls []) := by
    intro mt sx tk cu pa re cl si lt rd x3 x4 hF H locs hP hD hS ls hl
    unfold fb_M_testLine_44 at hF
    refine lv_aload_n hx hb dd_M_testLine_44 rfl (lv_at hl 0 rfl) ?_
    refine lv_iload hx hb dd_M_testLine_45 (lv_at hl 2 rfl) ?_
    refine lv_iconst (v := 1) hx hb dd_M_testLine_47 (by decide) ?_
    refine lv_iadd hx hb dd_M_testLine_48 ?_
    obtain ⟨o_49, ho_49, hF⟩ := jv_bi hF
    refine jv_mi (wr := []) (w1 := [(h0, .inr (6, [.int bg, .ref h1, .ref h2, .ref h3, .ref h4, .ref h5, .ref h6, .ref h7, .int ln, .ref h8, .int o_49.2, .int en, .int sx, .int pl, .int ov, .int tk, .ref h9])), (h1, .inl (cC, 6, .inl na)), (h2, .inl (cI, 2, .inl cu)), (h3, .inl (cI, 48, .inl pa)), (h4, .inl (cI, 48, .inl re)), (h5, .inl (cZ, 48, .inl cl)), (h6, .inl (cI, 48, .inl si)), (h7, .inl (cC, 288, .inl lt)), (h8, .inl (cC, 3000, .inl pg)), (h9, .inl (cC, 6, .inl rd))]) (va_runV (C := cn_M) (As := [.int (x4 + 1)]) (rest := []) ⟨hx, hb, hml, hown, ht⟩ (c_M_eatNumber l dC dI cI cL cC cZ h0 h1 h2 h3 h4 h5 h6 h7 h8 h9 H.size bg ln mt en sx pl ov tk na cu pa re cl si lt pg rd (x4 + 1) _ ho_49) (cwV 1 ht (gi_V tw_3_233 tw_3_235 tw_p_33 tw_1_4 tw_3_236) rfl rfl rfl (by decide +kernel) ⟨Nat.le_of_ble_eq_true rfl, Nat.le_of_ble_eq_true rfl⟩) (jv_pv hK hP hD [0, 1, 2, 3, 4, 5, 6, 7, 8, 9] rfl (by decide) rfl (va_recv hK hP (ci := 6) (q0 := 0) rfl rfl)) rfl rfl hl.1 rfl (lv_room (Nat.le_of_ble_eq_true rfl)) dd_M_testLine_49 ⟨Nat.le_of_ble_eq_true rfl, Nat.le_of_ble_eq_true rfl⟩) hP hD hS hA [0, 1, 2, 3, 4, 5, 6, 7, 8, 9] [] rfl rfl (by decide) (by decide) (fun H_43 locs_44 hP hD hS => ?_)
    have hP : va_P (dC, dI) vwCl [(h0, .inr (6, [.int bg, .ref h1, .ref h2, .ref h3, .ref h4, .ref h5, .ref h6, .ref h7, .int ln, .ref h8, .int o_49.2, .int en, .int sx, .int pl, .int ov, .int tk, .ref h9])), (h1, .inl (cC, 6, .inl na)), (h2, .inl (cI, 2, .inl cu)), (h3, .inl (cI, 48, .inl pa)), (h4, .inl (cI, 48, .inl re)), (h5, .inl (cZ, 48, .inl cl)), (h6, .inl (cI, 48, .inl si)), (h7, .inl (cC, 288, .inl lt)), (h8, .inl (cC, 3000, .inl pg)), (h9, .inl (cC, 6, .inl rd))] H_43 := hP.sub [0, 1, 2, 3, 4, 5, 6, 7, 8, 9] rfl
    have hD : va_D A [(h0, .inr (6, [.int bg, .ref h1, .ref h2, .ref h3, .ref h4, .ref h5, .ref h6, .ref h7, .int ln, .ref h8, .int o_49.2, .int en, .int sx, .int pl, .int ov, .int tk, .ref h9])), (h1, .inl (cC, 6, .inl na)), (h2, .inl (cI, 2, .inl cu)), (h3, .inl (cI, 48, .inl pa)), (h4, .inl (cI, 48, .inl re)), (h5, .inl (cZ, 48, .inl cl)), (h6, .inl (cI, 48, .inl si)), (h7, .inl (cC, 288, .inl lt)), (h8, .inl (cC, 3000, .inl pg)), (h9, .inl (cC, 6, .inl rd))] := hD.sub [0, 1, 2, 3, 4, 5, 6, 7, 8, 9] (by decide) rfl
    refine lv_if_eq (tgt := 63) hx hb dd_M_testLine_52 (by decide) (fun c_45 => ?_) (fun c_45 => ?_)
    · have hF := jv_t c_45 hF
      refine lv_iconst (v := 0) hx hb dd_M_testLine_63 (by decide) ?_
      subst hQ
      obtain rfl := Option.some.inj hF
      exact W.zret (v := 0) hx hb hr rfl (fun t ht hW => ⟨⟨0, (), rfl, rfl, by rw [ht]; exact hP, va_K.moved hW.alike hK, hD⟩, hS.F ht⟩) hS.2.2 dd_M_testLine_64
    · have hF := jv_f c_45 hF
      refine lv_aload_n hx hb dd_M_testLine_55 rfl (lv_at hl 0 rfl) ?_
      refine lv_iconst (v := 3) hx hb dd_M_testLine_56 (by decide) ?_
      obtain ⟨o_57, ho_57, hF⟩ := jv_bi hF
      refine jv_mi (wr := []) (w1 := [(h0, .inr (6, [.int bg, .ref h1, .ref h2, .ref h3, .ref h4, .ref h5, .ref h6, .ref h7, .int ln, .ref h8, .int o_57.2, .int en, .int sx, .int pl, .int ov, .int tk, .ref h9])), (h1, .inl (cC, 6, .inl na)), (h2, .inl (cI, 2, .inl cu)), (h3, .inl (cI, 48, .inl pa)), (h4, .inl (cI, 48, .inl re)), (h5, .inl (cZ, 48, .inl cl)), (h6, .inl (cI, 48, .inl si)), (h7, .inl (cC, 288, .inl lt)), (h8, .inl (cC, 3000, .inl pg)), (h9, .inl (cC, 6, .inl rd))]) (va_runV (C := cn_M) (As := [.int 3]) (rest := []) ⟨hx, hb, hml, hown, ht⟩ (c_M_eat l dC dI cI cL cC cZ h0 h1 h2 h3 h4 h5 h6 h7 h8 h9 H_43.size bg ln o_49.2 en sx pl ov tk na cu pa re cl si lt pg rd 3 _ ho_57) (cwV 1 ht (gi_V tw_3_217 tw_3_219 tw_p_29 tw_1_4 tw_3_220) rfl rfl rfl (by decide +kernel) ⟨Nat.le_of_ble_eq_true rfl, Nat.le_of_ble_eq_true rfl⟩) (jv_pv hK hP hD [0, 1, 2, 3, 4, 5, 6, 7, 8, 9] rfl (by decide) rfl (va_recv hK hP (ci := 6) (q0 := 0) rfl rfl)) rfl rfl hl.1 rfl (lv_room (Nat.le_of_ble_eq_true rfl)) dd_M_testLine_57 ⟨Nat.le_of_ble_eq_true rfl, Nat.le_of_ble_eq_true rfl⟩) hP hD hS hA [0, 1, 2, 3, 4, 5, 6, 7, 8, 9] [] rfl rfl (by decide) (by decide) (fun H_46 locs_47 hP hD hS => ?_)
      have hP : va_P (dC, dI) vwCl [(h0, .inr (6, [.int bg, .ref h1, .ref h2, .ref h3, .ref h4, .ref h5, .ref h6, .ref h7, .int ln, .ref h8, .int o_57.2, .int en, .int sx, .int pl, .int ov, .int tk, .ref h9])), (h1, .inl (cC, 6, .inl na)), (h2, .inl (cI, 2, .inl cu)), (h3, .inl (cI, 48, .inl pa)), (h4, .inl (cI, 48, .inl re)), (h5, .inl (cZ, 48, .inl cl)), (h6, .inl (cI, 48, .inl si)), (h7, .inl (cC, 288, .inl lt)), (h8, .inl (cC, 3000, .inl pg)), (h9, .inl (cC, 6, .inl rd))] H_46 := hP.sub [0, 1, 2, 3, 4, 5, 6, 7, 8, 9] rfl
      have hD : va_D A [(h0, .inr (6, [.int bg, .ref h1, .ref h2, .ref h3, .ref h4, .ref h5, .ref h6, .ref h7, .int ln, .ref h8, .int o_57.2, .int en, .int sx, .int pl, .int ov, .int tk, .ref h9])), (h1, .inl (cC, 6, .inl na)), (h2, .inl (cI, 2, .inl cu)), (h3, .inl (cI, 48, .inl pa)), (h4, .inl (cI, 48, .inl re)), (h5, .inl (cZ, 48, .inl cl)), (h6, .inl (cI, 48, .inl si)), (h7, .inl (cC, 288, .inl lt)), (h8, .inl (cC, 3000, .inl pg)), (h9, .inl (cC, 6, .inl rd))] := hD.sub [0, 1, 2, 3, 4, 5, 6, 7, 8, 9] (by decide) rfl
      refine lv_if_ne (tgt := 65) hx hb dd_M_testLine_60 (by decide) (fun c_48 => ?_) (fun c_48 => ?_)
      · have hF := jv_f c_48 hF
        refine lv_aload_n hx hb dd_M_testLine_65 rfl (lv_at hl 0 rfl) ?_
        refine lv_aload_n hx hb dd_M_testLine_66 rfl (lv_at hl 0 rfl) ?_
        refine va_get (D := (dC, dI)) (ci := 6) (v := .int o_57.2) (C := cn_M) (T := tt_M) (N := 17) hx hb ht in_M hown hK hP 0 rfl rfl 10 (by decide) (ht _ tw_3_51) (fun _ h9 => h9) rfl dd_M_testLine_67 ?_
        refine lv_iload_n hx hb dd_M_testLine_70 rfl (lv_at hl 1 rfl) ?_
        refine lv_if_eq (tgt := 78) hx hb dd_M_testLine_71 (by decide) (fun c_49 => ?_) (fun c_49 => ?_)
        · have hF := jv_t c_49 hF
          refine lv_iconst (v := 5) hx hb dd_M_testLine_78 (by decide) ?_
          exact bl79 o_57.2 sx tk cu pa re cl si lt rd x3 o_57.2 5 hF H_46 locs_47 hP hD hS ls (lv_sub hl [0, 1] rfl)
        · have hF := jv_f c_49 hF
          refine lv_iconst (v := 4) hx hb dd_M_testLine_74 (by decide) ?_
          refine lv_goto (tgt := 79) hx hb dd_M_testLine_75 (by decide) ?_
          exact bl79 o_57.2 sx tk cu pa re cl si lt rd x3 o_57.2 4 hF H_46 locs_47 hP hD hS ls (lv_sub hl [0, 1] rfl)
      · have hF := jv_t c_48 hF
        refine lv_iconst (v := 0) hx hb dd_M_testLine_63 (by decide) ?_
        subst hQ
        obtain rfl := Option.some.inj hF
        exact W.zret (v := 0) hx hb hr rfl (fun t ht hW => ⟨⟨0, (), rfl, rfl, by rw [ht]; exact hP, va_K.moved hW.alike hK, hD⟩, hS.F ht⟩) hS.2.2 dd_M_testLine_64
  unfold fn_M_testLine at hF
  refine lv_aload_n hx hb dd_M_testLine_0 rfl (lv_at hl 0 rfl) ?_
  refine lv_iload_n hx hb dd_M_testLine_1 rfl (lv_at hl 1 rfl) ?_
  refine va_put (D := (dC, dI)) (ci := 6) (v := .int x1) (ty := .int) (C := cn_M) (T := tt_M) (N := 17) hx hb ht in_M ty_M tyok_M nm_M hown hK hP hD hS 0 rfl rfl 10 (by decide) (ht _ tw_3_51) (fun _ h9 => h9) rfl (by decide +kernel) rfl rfl (Nat.le_of_ble_eq_true rfl) dd_M_testLine_2 (fun H_50 locs_51 hP hD hS => ?_)
  have hP : va_P (dC, dI) vwCl [(h0, .inr (6, [.int bg, .ref h1, .ref h2, .ref h3, .ref h4, .ref h5, .ref h6, .ref h7, .int ln, .ref h8, .int x1, .int en, .int sx, .int pl, .int ov, .int tk, .ref h9])), (h1, .inl (cC, 6, .inl na)), (h2, .inl (cI, 2, .inl cu)), (h3, .inl (cI, 48, .inl pa)), (h4, .inl (cI, 48, .inl re)), (h5, .inl (cZ, 48, .inl cl)), (h6, .inl (cI, 48, .inl si)), (h7, .inl (cC, 288, .inl lt)), (h8, .inl (cC, 3000, .inl pg)), (h9, .inl (cC, 6, .inl rd))] H_50 := hP
  have hD : va_D A [(h0, .inr (6, [.int bg, .ref h1, .ref h2, .ref h3, .ref h4, .ref h5, .ref h6, .ref h7, .int ln, .ref h8, .int x1, .int en, .int sx, .int pl, .int ov, .int tk, .ref h9])), (h1, .inl (cC, 6, .inl na)), (h2, .inl (cI, 2, .inl cu)), (h3, .inl (cI, 48, .inl pa)), (h4, .inl (cI, 48, .inl re)), (h5, .inl (cZ, 48, .inl cl)), (h6, .inl (cI, 48, .inl si)), (h7, .inl (cC, 288, .inl lt)), (h8, .inl (cC, 3000, .inl pg)), (h9, .inl (cC, 6, .inl rd))] := hD
  refine lv_aload_n hx hb dd_M_testLine_5 rfl (lv_at hl 0 rfl) ?_
  refine lv_iload_n hx hb dd_M_testLine_6 rfl (lv_at hl 2 rfl) ?_
  obtain ⟨o_7, ho_7, hF⟩ := jv_bi hF
  refine jv_mi (wr := []) (w1 := [(h0, .inr (6, [.int bg, .ref h1, .ref h2, .ref h3, .ref h4, .ref h5, .ref h6, .ref h7, .int ln, .ref h8, .int o_7.2, .int en, .int sx, .int pl, .int ov, .int tk, .ref h9])), (h1, .inl (cC, 6, .inl na)), (h2, .inl (cI, 2, .inl cu)), (h3, .inl (cI, 48, .inl pa)), (h4, .inl (cI, 48, .inl re)), (h5, .inl (cZ, 48, .inl cl)), (h6, .inl (cI, 48, .inl si)), (h7, .inl (cC, 288, .inl lt)), (h8, .inl (cC, 3000, .inl pg)), (h9, .inl (cC, 6, .inl rd))]) (va_runV (C := cn_M) (As := [.int x2]) (rest := []) ⟨hx, hb, hml, hown, ht⟩ (c_M_eatSpaces l dC dI cI cL cC cZ h0 h1 h2 h3 h4 h5 h6 h7 h8 h9 H_50.size bg ln x1 en sx pl ov tk na cu pa re cl si lt pg rd x2 _ ho_7) (cwV 1 ht (gi_V tw_3_229 tw_3_231 tw_p_32 tw_1_4 tw_3_232) rfl rfl rfl (by decide +kernel) ⟨Nat.le_of_ble_eq_true rfl, Nat.le_of_ble_eq_true rfl⟩) (jv_pv hK hP hD [0, 1, 2, 3, 4, 5, 6, 7, 8, 9] rfl (by decide) rfl (va_recv hK hP (ci := 6) (q0 := 0) rfl rfl)) rfl rfl hl.1 rfl (lv_room (Nat.le_of_ble_eq_true rfl)) dd_M_testLine_7 ⟨Nat.le_of_ble_eq_true rfl, Nat.le_of_ble_eq_true rfl⟩) hP hD hS hA [0, 1, 2, 3, 4, 5, 6, 7, 8, 9] [] rfl rfl (by decide) (by decide) (fun H_52 locs_53 hP hD hS => ?_)
  have hP : va_P (dC, dI) vwCl [(h0, .inr (6, [.int bg, .ref h1, .ref h2, .ref h3, .ref h4, .ref h5, .ref h6, .ref h7, .int ln, .ref h8, .int o_7.2, .int en, .int sx, .int pl, .int ov, .int tk, .ref h9])), (h1, .inl (cC, 6, .inl na)), (h2, .inl (cI, 2, .inl cu)), (h3, .inl (cI, 48, .inl pa)), (h4, .inl (cI, 48, .inl re)), (h5, .inl (cZ, 48, .inl cl)), (h6, .inl (cI, 48, .inl si)), (h7, .inl (cC, 288, .inl lt)), (h8, .inl (cC, 3000, .inl pg)), (h9, .inl (cC, 6, .inl rd))] H_52 := hP.sub [0, 1, 2, 3, 4, 5, 6, 7, 8, 9] rfl
  have hD : va_D A [(h0, .inr (6, [.int bg, .ref h1, .ref h2, .ref h3, .ref h4, .ref h5, .ref h6, .ref h7, .int ln, .ref h8, .int o_7.2, .int en, .int sx, .int pl, .int ov, .int tk, .ref h9])), (h1, .inl (cC, 6, .inl na)), (h2, .inl (cI, 2, .inl cu)), (h3, .inl (cI, 48, .inl pa)), (h4, .inl (cI, 48, .inl re)), (h5, .inl (cZ, 48, .inl cl)), (h6, .inl (cI, 48, .inl si)), (h7, .inl (cC, 288, .inl lt)), (h8, .inl (cC, 3000, .inl pg)), (h9, .inl (cC, 6, .inl rd))] := hD.sub [0, 1, 2, 3, 4, 5, 6, 7, 8, 9] (by decide) rfl
  refine lv_if_ne (tgt := 15) hx hb dd_M_testLine_10 (by decide) (fun c_54 => ?_) (fun c_54 => ?_)
  · have hF := jv_f c_54 hF
    refine lv_aload_n hx hb dd_M_testLine_15 rfl (lv_at hl 0 rfl) ?_
    refine lv_iconst (v := 1) hx hb dd_M_testLine_16 (by decide) ?_
    obtain ⟨o_17, ho_17, hF⟩ := jv_bi hF
    refine jv_mi (wr := []) (w1 := [(h0, .inr (6, [.int bg, .ref h1, .ref h2, .ref h3, .ref h4, .ref h5, .ref h6, .ref h7, .int ln, .ref h8, .int o_17.2, .int en, .int sx, .int pl, .int ov, .int tk, .ref h9])), (h1, .inl (cC, 6, .inl na)), (h2, .inl (cI, 2, .inl cu)), (h3, .inl (cI, 48, .inl pa)), (h4, .inl (cI, 48, .inl re)), (h5, .inl (cZ, 48, .inl cl)), (h6, .inl (cI, 48, .inl si)), (h7, .inl (cC, 288, .inl lt)), (h8, .inl (cC, 3000, .inl pg)), (h9, .inl (cC, 6, .inl rd))]) (va_runV (C := cn_M) (As := [.int 1]) (rest := []) ⟨hx, hb, hml, hown, ht⟩ (c_M_eat l dC dI cI cL cC cZ h0 h1 h2 h3 h4 h5 h6 h7 h8 h9 H_52.size bg ln o_7.2 en sx pl ov tk na cu pa re cl si lt pg rd 1 _ ho_17) (cwV 1 ht (gi_V tw_3_217 tw_3_219 tw_p_29 tw_1_4 tw_3_220) rfl rfl rfl (by decide +kernel) ⟨Nat.le_of_ble_eq_true rfl, Nat.le_of_ble_eq_true rfl⟩) (jv_pv hK hP hD [0, 1, 2, 3, 4, 5, 6, 7, 8, 9] rfl (by decide) rfl (va_recv hK hP (ci := 6) (q0 := 0) rfl rfl)) rfl rfl hl.1 rfl (lv_room (Nat.le_of_ble_eq_true rfl)) dd_M_testLine_17 ⟨Nat.le_of_ble_eq_true rfl, Nat.le_of_ble_eq_true rfl⟩) hP hD hS hA [0, 1, 2, 3, 4, 5, 6, 7, 8, 9] [] rfl rfl (by decide) (by decide) (fun H_55 locs_56 hP hD hS => ?_)
    have hP : va_P (dC, dI) vwCl [(h0, .inr (6, [.int bg, .ref h1, .ref h2, .ref h3, .ref h4, .ref h5, .ref h6, .ref h7, .int ln, .ref h8, .int o_17.2, .int en, .int sx, .int pl, .int ov, .int tk, .ref h9])), (h1, .inl (cC, 6, .inl na)), (h2, .inl (cI, 2, .inl cu)), (h3, .inl (cI, 48, .inl pa)), (h4, .inl (cI, 48, .inl re)), (h5, .inl (cZ, 48, .inl cl)), (h6, .inl (cI, 48, .inl si)), (h7, .inl (cC, 288, .inl lt)), (h8, .inl (cC, 3000, .inl pg)), (h9, .inl (cC, 6, .inl rd))] H_55 := hP.sub [0, 1, 2, 3, 4, 5, 6, 7, 8, 9] rfl
    have hD : va_D A [(h0, .inr (6, [.int bg, .ref h1, .ref h2, .ref h3, .ref h4, .ref h5, .ref h6, .ref h7, .int ln, .ref h8, .int o_17.2, .int en, .int sx, .int pl, .int ov, .int tk, .ref h9])), (h1, .inl (cC, 6, .inl na)), (h2, .inl (cI, 2, .inl cu)), (h3, .inl (cI, 48, .inl pa)), (h4, .inl (cI, 48, .inl re)), (h5, .inl (cZ, 48, .inl cl)), (h6, .inl (cI, 48, .inl si)), (h7, .inl (cC, 288, .inl lt)), (h8, .inl (cC, 3000, .inl pg)), (h9, .inl (cC, 6, .inl rd))] := hD.sub [0, 1, 2, 3, 4, 5, 6, 7, 8, 9] (by decide) rfl
    refine lv_istore_n (lv' := [(3, .int o_17.1), (0, .ref h0), (1, .int x1), (2, .int x2)]) hx hb dd_M_testLine_20 rfl hl (by decide) rfl (fun ls hl => ?_)
    refine lv_aload_n hx hb dd_M_testLine_21 rfl (lv_at hl 1 rfl) ?_
    refine lv_iconst (v := 1) hx hb dd_M_testLine_22 (by decide) ?_
    refine lv_aload_n hx hb dd_M_testLine_23 rfl (lv_at hl 1 rfl) ?_
    refine va_get (D := (dC, dI)) (ci := 6) (v := .int sx) (C := cn_M) (T := tt_M) (N := 17) hx hb ht in_M hown hK hP 0 rfl rfl 12 (by decide) (ht _ tw_3_53) (fun _ h9 => h9) rfl dd_M_testLine_24 ?_
    obtain ⟨o_27, ho_27, hF⟩ := jv_bi hF
    refine jv_ci (va_runV (C := cn_M) (As := [.int 1, .int sx]) (rest := []) ⟨hx, hb, hml, hown, ht⟩ (c_M_rowSize l dC dI cI cL cC cZ h0 h1 h2 h3 h4 h5 h6 h7 h8 h9 H_55.size bg ln o_17.2 en sx pl ov tk na cu pa re cl si lt pg rd 1 sx _ ho_27) (cwV 2 ht (gi_V tw_3_193 tw_3_195 tw_p_24 tw_1_4 tw_3_196) rfl rfl rfl (by decide +kernel) ⟨Nat.le_of_ble_eq_true rfl, Nat.le_of_ble_eq_true rfl⟩) (jv_pv hK hP hD [0, 1, 2, 3, 4, 5, 6, 7, 8, 9] rfl (by decide) rfl (va_recv hK hP (ci := 6) (q0 := 0) rfl rfl)) rfl rfl hl.1 rfl (lv_room (Nat.le_of_ble_eq_true rfl)) dd_M_testLine_27 ⟨Nat.le_of_ble_eq_true rfl, Nat.le_of_ble_eq_true rfl⟩) ?_
    refine lv_istore (lv' := [(4, .int o_27), (3, .int o_17.1), (0, .ref h0), (1, .int x1), (2, .int x2)]) hx hb dd_M_testLine_30 hl (by decide) rfl (fun ls hl => ?_)
    refine lv_iload_n hx hb dd_M_testLine_32 rfl (lv_at hl 1 rfl) ?_
    refine lv_if_ne (tgt := 44) hx hb dd_M_testLine_33 (by decide) (fun c_57 => ?_) (fun c_57 => ?_)
    · have hF := jv_f c_57 hF
      exact bl44 o_17.2 sx tk cu pa re cl si lt rd o_17.1 o_27 hF H_55 locs_56 hP hD hS ls (lv_sub hl [2, 1, 0] rfl)
    · have hF := jv_t c_57 hF
      refine lv_aload_n hx hb dd_M_testLine_36 rfl (lv_at hl 2 rfl) ?_
      refine lv_iconst (v := 2) hx hb dd_M_testLine_37 (by decide) ?_
      obtain ⟨o_38, ho_38, hF⟩ := jv_bi hF
      refine jv_mi (wr := []) (w1 := [(h0, .inr (6, [.int bg, .ref h1, .ref h2, .ref h3, .ref h4, .ref h5, .ref h6, .ref h7, .int ln, .ref h8, .int o_38.2, .int en, .int sx, .int pl, .int ov, .int tk, .ref h9])), (h1, .inl (cC, 6, .inl na)), (h2, .inl (cI, 2, .inl cu)), (h3, .inl (cI, 48, .inl pa)), (h4, .inl (cI, 48, .inl re)), (h5, .inl (cZ, 48, .inl cl)), (h6, .inl (cI, 48, .inl si)), (h7, .inl (cC, 288, .inl lt)), (h8, .inl (cC, 3000, .inl pg)), (h9, .inl (cC, 6, .inl rd))]) (va_runV (C := cn_M) (As := [.int 2]) (rest := []) ⟨hx, hb, hml, hown, ht⟩ (c_M_eat l dC dI cI cL cC cZ h0 h1 h2 h3 h4 h5 h6 h7 h8 h9 H_55.size bg ln o_17.2 en sx pl ov tk na cu pa re cl si lt pg rd 2 _ ho_38) (cwV 1 ht (gi_V tw_3_217 tw_3_219 tw_p_29 tw_1_4 tw_3_220) rfl rfl rfl (by decide +kernel) ⟨Nat.le_of_ble_eq_true rfl, Nat.le_of_ble_eq_true rfl⟩) (jv_pv hK hP hD [0, 1, 2, 3, 4, 5, 6, 7, 8, 9] rfl (by decide) rfl (va_recv hK hP (ci := 6) (q0 := 0) rfl rfl)) rfl rfl hl.1 rfl (lv_room (Nat.le_of_ble_eq_true rfl)) dd_M_testLine_38 ⟨Nat.le_of_ble_eq_true rfl, Nat.le_of_ble_eq_true rfl⟩) hP hD hS hA [0, 1, 2, 3, 4, 5, 6, 7, 8, 9] [] rfl rfl (by decide) (by decide) (fun H_58 locs_59 hP hD hS => ?_)
      have hP : va_P (dC, dI) vwCl [(h0, .inr (6, [.int bg, .ref h1, .ref h2, .ref h3, .ref h4, .ref h5, .ref h6, .ref h7, .int ln, .ref h8, .int o_38.2, .int en, .int sx, .int pl, .int ov, .int tk, .ref h9])), (h1, .inl (cC, 6, .inl na)), (h2, .inl (cI, 2, .inl cu)), (h3, .inl (cI, 48, .inl pa)), (h4, .inl (cI, 48, .inl re)), (h5, .inl (cZ, 48, .inl cl)), (h6, .inl (cI, 48, .inl si)), (h7, .inl (cC, 288, .inl lt)), (h8, .inl (cC, 3000, .inl pg)), (h9, .inl (cC, 6, .inl rd))] H_58 := hP.sub [0, 1, 2, 3, 4, 5, 6, 7, 8, 9] rfl
      have hD : va_D A [(h0, .inr (6, [.int bg, .ref h1, .ref h2, .ref h3, .ref h4, .ref h5, .ref h6, .ref h7, .int ln, .ref h8, .int o_38.2, .int en, .int sx, .int pl, .int ov, .int tk, .ref h9])), (h1, .inl (cC, 6, .inl na)), (h2, .inl (cI, 2, .inl cu)), (h3, .inl (cI, 48, .inl pa)), (h4, .inl (cI, 48, .inl re)), (h5, .inl (cZ, 48, .inl cl)), (h6, .inl (cI, 48, .inl si)), (h7, .inl (cC, 288, .inl lt)), (h8, .inl (cC, 3000, .inl pg)), (h9, .inl (cC, 6, .inl rd))] := hD.sub [0, 1, 2, 3, 4, 5, 6, 7, 8, 9] (by decide) rfl
      refine lv_if_eq (tgt := 63) hx hb dd_M_testLine_41 (by decide) (fun c_60 => ?_) (fun c_60 => ?_)
      · have hF := jv_t c_60 hF
        refine lv_iconst (v := 0) hx hb dd_M_testLine_63 (by decide) ?_
        subst hQ
        obtain rfl := Option.some.inj hF
        exact W.zret (v := 0) hx hb hr rfl (fun t ht hW => ⟨⟨0, (), rfl, rfl, by rw [ht]; exact hP, va_K.moved hW.alike hK, hD⟩, hS.F ht⟩) hS.2.2 dd_M_testLine_64
      · have hF := jv_f c_60 hF
        exact bl44 o_38.2 sx tk cu pa re cl si lt rd o_17.1 o_27 hF H_58 locs_59 hP hD hS ls (lv_sub hl [2, 1, 0] rfl)
  · have hF := jv_t c_54 hF
    refine lv_iconst (v := 0) hx hb dd_M_testLine_13 (by decide) ?_
    subst hQ
    obtain rfl := Option.some.inj hF
    exact W.zret (v := 0) hx hb hr rfl (fun t ht hW => ⟨⟨0, (), rfl, rfl, by rw [ht]; exact hP, va_K.moved hW.alike hK, hD⟩, hS.F ht⟩) hS.2.2 dd_M_testLine_14
set_option maxHeartbeats 40000000 in
set_option maxRecDepth 100000 in
theorem c_M_line (l : Launch) (dC : Nat → ClassId) (dI : Nat → Nat → Nat) (cI cL cC cZ : ClassId) (h0 h1 h2 h3 h4 h5 h6 h7 h8 h9 : Nat) (sz : Nat) (bg : Int32) (ln : Int32) (mt : Int32) (en : Int32) (sx : Int32) (pl : Int32) (ov : Int32) (tk : Int32) (na : Nat → Int32) (cu : Nat → Int32) (pa : Nat → Int32) (re : Nat → Int32) (cl : Nat → Int32) (si : Nat → Int32) (lt : Nat → Int32) (pg : Nat → Int32) (rd : Nat → Int32) (x1 : Int32) (out : Int32 × Int32 × Int32 × Int32 × Int32 × Int32 × (Nat → Int32) × (Nat → Int32) × (Nat → Int32) × (Nat → Int32) × (Nat → Int32) × (Nat → Int32) × (Nat → Int32)) (hF : fn_M_line en pg mt sx pl ov tk cu pa re cl si lt rd x1 = some out) : Met l yy_M_line ws_M_line { frames := 5, cells := 0, slots := 0, locals := 117 } (mP_ (dC, dI) (tk_ cI cL cC cZ) [(h0, .inr (6, [.int bg, .ref h1, .ref h2, .ref h3, .ref h4, .ref h5, .ref h6, .ref h7, .int ln, .ref h8, .int mt, .int en, .int sx, .int pl, .int ov, .int tk, .ref h9])), (h1, .inl (cC, 6, .inl na)), (h2, .inl (cI, 2, .inl cu)), (h3, .inl (cI, 48, .inl pa)), (h4, .inl (cI, 48, .inl re)), (h5, .inl (cZ, 48, .inl cl)), (h6, .inl (cI, 48, .inl si)), (h7, .inl (cC, 288, .inl lt)), (h8, .inl (cC, 3000, .inl pg)), (h9, .inl (cC, 6, .inl rd))] sz [.ref h0, .int x1]) (va_Qi (fun r (_ : Unit) => r = out.1) (mB_ (dC, dI) (tk_ cI cL cC cZ) [(h0, .inr (6, [.int bg, .ref h1, .ref h2, .ref h3, .ref h4, .ref h5, .ref h6, .ref h7, .int ln, .ref h8, .int out.2.1, .int en, .int out.2.2.1, .int out.2.2.2.1, .int out.2.2.2.2.1, .int out.2.2.2.2.2.1, .ref h9])), (h1, .inl (cC, 6, .inl na)), (h2, .inl (cI, 2, .inl out.2.2.2.2.2.2.1)), (h3, .inl (cI, 48, .inl out.2.2.2.2.2.2.2.1)), (h4, .inl (cI, 48, .inl out.2.2.2.2.2.2.2.2.1)), (h5, .inl (cZ, 48, .inl out.2.2.2.2.2.2.2.2.2.1)), (h6, .inl (cI, 48, .inl out.2.2.2.2.2.2.2.2.2.2.1)), (h7, .inl (cC, 288, .inl out.2.2.2.2.2.2.2.2.2.2.2.1)), (h8, .inl (cC, 3000, .inl pg)), (h9, .inl (cC, 6, .inl out.2.2.2.2.2.2.2.2.2.2.2.2))] (va_A [(h0, .inr (6, [.int bg, .ref h1, .ref h2, .ref h3, .ref h4, .ref h5, .ref h6, .ref h7, .int ln, .ref h8, .int mt, .int en, .int sx, .int pl, .int ov, .int tk, .ref h9])), (h1, .inl (cC, 6, .inl na)), (h2, .inl (cI, 2, .inl cu)), (h3, .inl (cI, 48, .inl pa)), (h4, .inl (cI, 48, .inl re)), (h5, .inl (cZ, 48, .inl cl)), (h6, .inl (cI, 48, .inl si)), (h7, .inl (cC, 288, .inl lt)), (h8, .inl (cC, 3000, .inl pg)), (h9, .inl (cC, 6, .inl rd))] sz)) (va_A [(h0, .inr (6, [.int bg, .ref h1, .ref h2, .ref h3, .ref h4, .ref h5, .ref h6, .ref h7, .int ln, .ref h8, .int mt, .int en, .int sx, .int pl, .int ov, .int tk, .ref h9])), (h1, .inl (cC, 6, .inl na)), (h2, .inl (cI, 2, .inl cu)), (h3, .inl (cI, 48, .inl pa)), (h4, .inl (cI, 48, .inl re)), (h5, .inl (cZ, 48, .inl cl)), (h6, .inl (cI, 48, .inl si)), (h7, .inl (cC, 288, .inl lt)), (h8, .inl (cC, 3000, .inl pg)), (h9, .inl (cC, 6, .inl rd))] sz)) 0 0 (va_A [(h0, .inr (6, [.int bg, .ref h1, .ref h2, .ref h3, .ref h4, .ref h5, .ref h6, .ref h7, .int ln, .ref h8, .int mt, .int en, .int sx, .int pl, .int ov, .int tk, .ref h9])), (h1, .inl (cC, 6, .inl na)), (h2, .inl (cI, 2, .inl cu)), (h3, .inl (cI, 48, .inl pa)), (h4, .inl (cI, 48, .inl re)), (h5, .inl (cZ, 48, .inl cl)), (h6, .inl (cI, 48, .inl si)), (h7, .inl (cC, 288, .inl lt)), (h8, .inl (cC, 3000, .inl pg)), (h9, .inl (cC, 6, .inl rd))] sz) := by
  refine Met.ofW (cc := cc_M_line) (maxL := 3) (ret := (some .boolean)) (by decide) rfl ?_
  intro p e s m args below meth c s₁ B hml hv
  obtain ⟨hargs, hsz, hP, hK, hD0⟩ := hv
  have hx := B.exec
  have hb := B.bytes
  have hr := B.returns
  have hts := atoms_spec (ws := ws_M_line) B.pre
  have ht : ∀ w ∈ TB_, w.before args s = true := fun w h => hts w (List.mem_cons_of_mem _ h)
  have hown : s.vm.findClass cn_M = some m.cls := findClass_of_methodNamed B.named
  have hlocks := B.notSynchronized
  subst hsz
  have hD := hD0.self (sz := s.heap.size)
  generalize hAe : va_A [(h0, .inr (6, [.int bg, .ref h1, .ref h2, .ref h3, .ref h4, .ref h5, .ref h6, .ref h7, .int ln, .ref h8, .int mt, .int en, .int sx, .int pl, .int ov, .int tk, .ref h9])), (h1, .inl (cC, 6, .inl na)), (h2, .inl (cI, 2, .inl cu)), (h3, .inl (cI, 48, .inl pa)), (h4, .inl (cI, 48, .inl re)), (h5, .inl (cZ, 48, .inl cl)), (h6, .inl (cI, 48, .inl si)), (h7, .inl (cC, 288, .inl lt)), (h8, .inl (cC, 3000, .inl pg)), (h9, .inl (cC, 6, .inl rd))] s.heap.size = A at hD ⊢
  have hA : ∀ q : Nat, s.heap.size ≤ q → A q := fun q h => by rw [← hAe]; exact Or.inr h
  have hS : va_S A s.heap s.heap [] := va_S.rf
  have hP : va_P (dC, dI) vwCl [(h0, .inr (6, [.int bg, .ref h1, .ref h2, .ref h3, .ref h4, .ref h5, .ref h6, .ref h7, .int ln, .ref h8, .int mt, .int en, .int sx, .int pl, .int ov, .int tk, .ref h9])), (h1, .inl (cC, 6, .inl na)), (h2, .inl (cI, 2, .inl cu)), (h3, .inl (cI, 48, .inl pa)), (h4, .inl (cI, 48, .inl re)), (h5, .inl (cZ, 48, .inl cl)), (h6, .inl (cI, 48, .inl si)), (h7, .inl (cC, 288, .inl lt)), (h8, .inl (cC, 3000, .inl pg)), (h9, .inl (cC, 6, .inl rd))] s.heap := hP
  have hl := lv_entry [.ref h0, .int x1] (n := 3) (Nat.le_of_ble_eq_true rfl)
  have he : entryFrame m args 3 = _ := (congrArg (fun a => entryFrame m a 3) hargs).trans (lg_entry_eq m [.ref h0, .int x1] 3)
  rw [he]
  generalize (lg_sl [.ref h0, .int x1] ++ List.replicate (3 - (lg_sl [.ref h0, .int x1]).length) Slot.unset).toArray = ls at hl ⊢
  have hl : lv_has ls 3 [(0, .ref h0), (1, .int x1)] := hl
  generalize hQ : MQ below _ args s _ _ _ = Q
  have bl48 : ∀ (mt : Int32) (sx : Int32) (pl : Int32) (ov : Int32) (tk : Int32) (cu : Nat → Int32) (pa : Nat → Int32) (re : Nat → Int32) (cl : Nat → Int32) (si : Nat → Int32) (lt : Nat → Int32) (rd : Nat → Int32) (x1 : Int32) (y0 : Int32), fb_M_line_48 en pg  mt sx pl ov tk cu pa re cl si lt rd x1 y0 = some out → ∀ (H : Heap) (locs : List Loc), va_P (dC, dI) vwCl [(h0, .inr (6, [.int bg, .ref h1, .ref h2, .ref h3, .ref h4, .ref h5, .ref h6, .ref h7, .int ln, .ref h8, .int mt, .int en, .int sx, .int pl, .int ov, .int tk, .ref h9])), (h1, .inl (cC, 6, .inl na)), (h2, .inl (cI, 2, .inl cu)), (h3, .inl (cI, 48, .inl pa)), (h4, .inl (cI, 48, .inl re)), (h5, .inl (cZ, 48, .inl cl)), (h6, .inl (cI, 48, .inl si)), (h7, .inl (cC, 288, .inl lt)), (h8, .inl (cC, 3000, .inl pg)), (h9, .inl (cC, 6, .inl rd))] H → va_D A [(h0, .inr (6, [.int bg, .ref h1, .ref h2, .ref h3, .ref h4, .ref h5, .ref h6, .ref h7, .int ln, .ref h8, .int mt, .int en, .int sx, .int pl, .int ov, .int tk, .ref h9])), (h1, .inl (cC, 6, .inl na)), (h2, .inl (cI, 2, .inl cu)), (h3, .inl (cI, 48, .inl pa)), (h4, .inl (cI, 48, .inl re)), (h5, .inl (cZ, 48, .inl cl)), (h6, .inl (cI, 48, .inl si)), (h7, .inl (cC, 288, .inl lt)), (h8, .inl (cC, 3000, .inl pg)), (h9, .inl (cC, 6, .inl rd))] → va_S A s.heap H locs → ∀ ls : Array Slot, lv_has ls 3 [(0, .ref h0), (1, .int x1)] → W p l e (headSpec ws_M_line { frames := 5, cells := 0, slots := 0, locals := 117 }).room s m args below meth c H locs 0 0 Q (F0 m 48 ls [.int y0]) := by
    intro mt sx pl ov tk cu pa re cl si lt rd x1 y0 hF H locs hP hD hS ls hl
    unfold fb_M_line_48 at hF
    refine lv_istore_n (lv' := [(2, .int y0), (0, .ref h0), (1, .int x1)]) hx hb dd_M_line_48 rfl hl (by decide) rfl (fun ls hl => ?_)
    refine lv_aload_n hx hb dd_M_line_49 rfl (lv_at hl 1 rfl) ?_
    refine lv_iload_n hx hb dd_M_line_50 rfl (lv_at hl 2 rfl) ?_
    refine lv_iload_n hx hb dd_M_line_51 rfl (lv_at hl 0 rfl) ?_
    obtain ⟨o_52, ho_52, hF⟩ := jv_bi hF
    refine jv_mi (wr := []) (w1 := [(h0, .inr (6, [.int bg, .ref h1, .ref h2, .ref h3, .ref h4, .ref h5, .ref h6, .ref h7, .int ln, .ref h8, .int o_52.2.1, .int en, .int sx, .int o_52.2.2.1, .int o_52.2.2.2, .int tk, .ref h9])), (h1, .inl (cC, 6, .inl na)), (h2, .inl (cI, 2, .inl cu)), (h3, .inl (cI, 48, .inl pa)), (h4, .inl (cI, 48, .inl re)), (h5, .inl (cZ, 48, .inl cl)), (h6, .inl (cI, 48, .inl si)), (h7, .inl (cC, 288, .inl lt)), (h8, .inl (cC, 3000, .inl pg)), (h9, .inl (cC, 6, .inl rd))]) (va_runV (C := cn_M) (As := [.int x1, .int y0]) (rest := []) ⟨hx, hb, hml, hown, ht⟩ (c_M_plan l dC dI cI cL cC cZ h0 h1 h2 h3 h4 h5 h6 h7 h8 h9 H.size bg ln mt en sx pl ov tk na cu pa re cl si lt pg rd x1 y0 _ ho_52) (cwV 2 ht (gi_V tw_4_9 tw_4_11 tw_p_37 tw_1_4 tw_4_12) rfl rfl rfl (by decide +kernel) ⟨Nat.le_of_ble_eq_true rfl, Nat.le_of_ble_eq_true rfl⟩) (jv_pv hK hP hD [0, 1, 2, 3, 4, 5, 6, 7, 8, 9] rfl (by decide) rfl (va_recv hK hP (ci := 6) (q0 := 0) rfl rfl)) rfl rfl hl.1 rfl (lv_room (Nat.le_of_ble_eq_true rfl)) dd_M_line_52 ⟨Nat.le_of_ble_eq_true rfl, Nat.le_of_ble_eq_true rfl⟩) hP hD hS hA [0, 1, 2, 3, 4, 5, 6, 7, 8, 9] [] rfl rfl (by decide) (by decide) (fun H_20 locs_21 hP hD hS => ?_)
    have hP : va_P (dC, dI) vwCl [(h0, .inr (6, [.int bg, .ref h1, .ref h2, .ref h3, .ref h4, .ref h5, .ref h6, .ref h7, .int ln, .ref h8, .int o_52.2.1, .int en, .int sx, .int o_52.2.2.1, .int o_52.2.2.2, .int tk, .ref h9])), (h1, .inl (cC, 6, .inl na)), (h2, .inl (cI, 2, .inl cu)), (h3, .inl (cI, 48, .inl pa)), (h4, .inl (cI, 48, .inl re)), (h5, .inl (cZ, 48, .inl cl)), (h6, .inl (cI, 48, .inl si)), (h7, .inl (cC, 288, .inl lt)), (h8, .inl (cC, 3000, .inl pg)), (h9, .inl (cC, 6, .inl rd))] H_20 := hP.sub [0, 1, 2, 3, 4, 5, 6, 7, 8, 9] rfl
    have hD : va_D A [(h0, .inr (6, [.int bg, .ref h1, .ref h2, .ref h3, .ref h4, .ref h5, .ref h6, .ref h7, .int ln, .ref h8, .int o_52.2.1, .int en, .int sx, .int o_52.2.2.1, .int o_52.2.2.2, .int tk, .ref h9])), (h1, .inl (cC, 6, .inl na)), (h2, .inl (cI, 2, .inl cu)), (h3, .inl (cI, 48, .inl pa)), (h4, .inl (cI, 48, .inl re)), (h5, .inl (cZ, 48, .inl cl)), (h6, .inl (cI, 48, .inl si)), (h7, .inl (cC, 288, .inl lt)), (h8, .inl (cC, 3000, .inl pg)), (h9, .inl (cC, 6, .inl rd))] := hD.sub [0, 1, 2, 3, 4, 5, 6, 7, 8, 9] (by decide) rfl
    refine lv_if_ne (tgt := 84) hx hb dd_M_line_55 (by decide) (fun c_22 => ?_) (fun c_22 => ?_)
    · have hF := jv_f c_22 hF
      refine lv_iconst (v := 1) hx hb dd_M_line_84 (by decide) ?_
      refine lv_goto (tgt := 89) hx hb dd_M_line_85 (by decide) ?_
      subst hQ
      obtain rfl := Option.some.inj hF
      exact W.zret (v := 1) hx hb hr rfl (fun t ht hW => ⟨⟨1, (), rfl, rfl, by rw [ht]; exact hP, va_K.moved hW.alike hK, hD⟩, hS.F ht⟩) hS.2.2 dd_M_line_89
    · have hF := jv_t c_22 hF
      refine lv_aload_n hx hb dd_M_line_58 rfl (lv_at hl 1 rfl) ?_
      refine lv_iload_n hx hb dd_M_line_59 rfl (lv_at hl 2 rfl) ?_
      obtain ⟨o_60, ho_60, hF⟩ := jv_bi hF
      refine jv_mi (wr := []) (w1 := [(h0, .inr (6, [.int bg, .ref h1, .ref h2, .ref h3, .ref h4, .ref h5, .ref h6, .ref h7, .int ln, .ref h8, .int o_60.2.1, .int en, .int sx, .int o_52.2.2.1, .int o_60.2.2, .int tk, .ref h9])), (h1, .inl (cC, 6, .inl na)), (h2, .inl (cI, 2, .inl cu)), (h3, .inl (cI, 48, .inl pa)), (h4, .inl (cI, 48, .inl re)), (h5, .inl (cZ, 48, .inl cl)), (h6, .inl (cI, 48, .inl si)), (h7, .inl (cC, 288, .inl lt)), (h8, .inl (cC, 3000, .inl pg)), (h9, .inl (cC, 6, .inl rd))]) (va_runV (C := cn_M) (As := [.int x1]) (rest := []) ⟨hx, hb, hml, hown, ht⟩ (c_M_bail l dC dI cI cL cC cZ h0 h1 h2 h3 h4 h5 h6 h7 h8 h9 H_20.size bg ln o_52.2.1 en sx o_52.2.2.1 o_52.2.2.2 tk na cu pa re cl si lt pg rd x1 _ ho_60) (cwV 1 ht (gi_V tw_4_13 tw_4_15 tw_p_38 tw_1_4 tw_4_16) rfl rfl rfl (by decide +kernel) ⟨Nat.le_of_ble_eq_true rfl, Nat.le_of_ble_eq_true rfl⟩) (jv_pv hK hP hD [0, 1, 2, 3, 4, 5, 6, 7, 8, 9] rfl (by decide) rfl (va_recv hK hP (ci := 6) (q0 := 0) rfl rfl)) rfl rfl hl.1 rfl (lv_room (Nat.le_of_ble_eq_true rfl)) dd_M_line_60 ⟨Nat.le_of_ble_eq_true rfl, Nat.le_of_ble_eq_true rfl⟩) hP hD hS hA [0, 1, 2, 3, 4, 5, 6, 7, 8, 9] [] rfl rfl (by decide) (by decide) (fun H_23 locs_24 hP hD hS => ?_)
      have hP : va_P (dC, dI) vwCl [(h0, .inr (6, [.int bg, .ref h1, .ref h2, .ref h3, .ref h4, .ref h5, .ref h6, .ref h7, .int ln, .ref h8, .int o_60.2.1, .int en, .int sx, .int o_52.2.2.1, .int o_60.2.2, .int tk, .ref h9])), (h1, .inl (cC, 6, .inl na)), (h2, .inl (cI, 2, .inl cu)), (h3, .inl (cI, 48, .inl pa)), (h4, .inl (cI, 48, .inl re)), (h5, .inl (cZ, 48, .inl cl)), (h6, .inl (cI, 48, .inl si)), (h7, .inl (cC, 288, .inl lt)), (h8, .inl (cC, 3000, .inl pg)), (h9, .inl (cC, 6, .inl rd))] H_23 := hP.sub [0, 1, 2, 3, 4, 5, 6, 7, 8, 9] rfl
      have hD : va_D A [(h0, .inr (6, [.int bg, .ref h1, .ref h2, .ref h3, .ref h4, .ref h5, .ref h6, .ref h7, .int ln, .ref h8, .int o_60.2.1, .int en, .int sx, .int o_52.2.2.1, .int o_60.2.2, .int tk, .ref h9])), (h1, .inl (cC, 6, .inl na)), (h2, .inl (cI, 2, .inl cu)), (h3, .inl (cI, 48, .inl pa)), (h4, .inl (cI, 48, .inl re)), (h5, .inl (cZ, 48, .inl cl)), (h6, .inl (cI, 48, .inl si)), (h7, .inl (cC, 288, .inl lt)), (h8, .inl (cC, 3000, .inl pg)), (h9, .inl (cC, 6, .inl rd))] := hD.sub [0, 1, 2, 3, 4, 5, 6, 7, 8, 9] (by decide) rfl
      refine lv_if_ne (tgt := 84) hx hb dd_M_line_63 (by decide) (fun c_25 => ?_) (fun c_25 => ?_)
      · have hF := jv_f c_25 hF
        refine lv_iconst (v := 1) hx hb dd_M_line_84 (by decide) ?_
        refine lv_goto (tgt := 89) hx hb dd_M_line_85 (by decide) ?_
        subst hQ
        obtain rfl := Option.some.inj hF
        exact W.zret (v := 1) hx hb hr rfl (fun t ht hW => ⟨⟨1, (), rfl, rfl, by rw [ht]; exact hP, va_K.moved hW.alike hK, hD⟩, hS.F ht⟩) hS.2.2 dd_M_line_89
      · have hF := jv_t c_25 hF
        refine lv_aload_n hx hb dd_M_line_66 rfl (lv_at hl 1 rfl) ?_
        refine lv_iload_n hx hb dd_M_line_67 rfl (lv_at hl 2 rfl) ?_
        refine lv_iload_n hx hb dd_M_line_68 rfl (lv_at hl 0 rfl) ?_
        obtain ⟨o_69, ho_69, hF⟩ := jv_bi hF
        refine jv_mi (wr := []) (w1 := [(h0, .inr (6, [.int bg, .ref h1, .ref h2, .ref h3, .ref h4, .ref h5, .ref h6, .ref h7, .int ln, .ref h8, .int o_69.2.1, .int en, .int o_69.2.2.1, .int o_52.2.2.1, .int o_60.2.2, .int o_69.2.2.2.1, .ref h9])), (h1, .inl (cC, 6, .inl na)), (h2, .inl (cI, 2, .inl o_69.2.2.2.2.1)), (h3, .inl (cI, 48, .inl o_69.2.2.2.2.2.1)), (h4, .inl (cI, 48, .inl o_69.2.2.2.2.2.2.1)), (h5, .inl (cZ, 48, .inl o_69.2.2.2.2.2.2.2.1)), (h6, .inl (cI, 48, .inl o_69.2.2.2.2.2.2.2.2.1)), (h7, .inl (cC, 288, .inl o_69.2.2.2.2.2.2.2.2.2.1)), (h8, .inl (cC, 3000, .inl pg)), (h9, .inl (cC, 6, .inl o_69.2.2.2.2.2.2.2.2.2.2))]) (va_runV (C := cn_M) (As := [.int x1, .int y0]) (rest := []) ⟨hx, hb, hml, hown, ht⟩ (c_M_subtest l dC dI cI cL cC cZ h0 h1 h2 h3 h4 h5 h6 h7 h8 h9 H_23.size bg ln o_60.2.1 en sx o_52.2.2.1 o_60.2.2 tk na cu pa re cl si lt pg rd x1 y0 _ ho_69) (cwV 2 ht (gi_V tw_4_17 tw_4_19 tw_p_39 tw_1_4 tw_4_20) rfl rfl rfl (by decide +kernel) ⟨Nat.le_of_ble_eq_true rfl, Nat.le_of_ble_eq_true rfl⟩) (jv_pv hK hP hD [0, 1, 2, 3, 4, 5, 6, 7, 8, 9] rfl (by decide) rfl (va_recv hK hP (ci := 6) (q0 := 0) rfl rfl)) rfl rfl hl.1 rfl (lv_room (Nat.le_of_ble_eq_true rfl)) dd_M_line_69 ⟨Nat.le_of_ble_eq_true rfl, Nat.le_of_ble_eq_true rfl⟩) hP hD hS hA [0, 1, 2, 3, 4, 5, 6, 7, 8, 9] [] rfl rfl (by decide) (by decide) (fun H_26 locs_27 hP hD hS => ?_)
        have hP : va_P (dC, dI) vwCl [(h0, .inr (6, [.int bg, .ref h1, .ref h2, .ref h3, .ref h4, .ref h5, .ref h6, .ref h7, .int ln, .ref h8, .int o_69.2.1, .int en, .int o_69.2.2.1, .int o_52.2.2.1, .int o_60.2.2, .int o_69.2.2.2.1, .ref h9])), (h1, .inl (cC, 6, .inl na)), (h2, .inl (cI, 2, .inl o_69.2.2.2.2.1)), (h3, .inl (cI, 48, .inl o_69.2.2.2.2.2.1)), (h4, .inl (cI, 48, .inl o_69.2.2.2.2.2.2.1)), (h5, .inl (cZ, 48, .inl o_69.2.2.2.2.2.2.2.1)), (h6, .inl (cI, 48, .inl o_69.2.2.2.2.2.2.2.2.1)), (h7, .inl (cC, 288, .inl o_69.2.2.2.2.2.2.2.2.2.1)), (h8, .inl (cC, 3000, .inl pg)), (h9, .inl (cC, 6, .inl o_69.2.2.2.2.2.2.2.2.2.2))] H_26 := hP.sub [0, 1, 2, 3, 4, 5, 6, 7, 8, 9] rfl
        have hD : va_D A [(h0, .inr (6, [.int bg, .ref h1, .ref h2, .ref h3, .ref h4, .ref h5, .ref h6, .ref h7, .int ln, .ref h8, .int o_69.2.1, .int en, .int o_69.2.2.1, .int o_52.2.2.1, .int o_60.2.2, .int o_69.2.2.2.1, .ref h9])), (h1, .inl (cC, 6, .inl na)), (h2, .inl (cI, 2, .inl o_69.2.2.2.2.1)), (h3, .inl (cI, 48, .inl o_69.2.2.2.2.2.1)), (h4, .inl (cI, 48, .inl o_69.2.2.2.2.2.2.1)), (h5, .inl (cZ, 48, .inl o_69.2.2.2.2.2.2.2.1)), (h6, .inl (cI, 48, .inl o_69.2.2.2.2.2.2.2.2.1)), (h7, .inl (cC, 288, .inl o_69.2.2.2.2.2.2.2.2.2.1)), (h8, .inl (cC, 3000, .inl pg)), (h9, .inl (cC, 6, .inl o_69.2.2.2.2.2.2.2.2.2.2))] := hD.sub [0, 1, 2, 3, 4, 5, 6, 7, 8, 9] (by decide) rfl
        refine lv_if_ne (tgt := 84) hx hb dd_M_line_72 (by decide) (fun c_28 => ?_) (fun c_28 => ?_)
        · have hF := jv_f c_28 hF
          refine lv_iconst (v := 1) hx hb dd_M_line_84 (by decide) ?_
          refine lv_goto (tgt := 89) hx hb dd_M_line_85 (by decide) ?_
          subst hQ
          obtain rfl := Option.some.inj hF
          exact W.zret (v := 1) hx hb hr rfl (fun t ht hW => ⟨⟨1, (), rfl, rfl, by rw [ht]; exact hP, va_K.moved hW.alike hK, hD⟩, hS.F ht⟩) hS.2.2 dd_M_line_89
        · have hF := jv_t c_28 hF
          refine lv_aload_n hx hb dd_M_line_75 rfl (lv_at hl 1 rfl) ?_
          refine lv_iload_n hx hb dd_M_line_76 rfl (lv_at hl 2 rfl) ?_
          refine lv_iload_n hx hb dd_M_line_77 rfl (lv_at hl 0 rfl) ?_
          obtain ⟨o_78, ho_78, hF⟩ := jv_bi hF
          refine jv_mi (wr := []) (w1 := [(h0, .inr (6, [.int bg, .ref h1, .ref h2, .ref h3, .ref h4, .ref h5, .ref h6, .ref h7, .int ln, .ref h8, .int o_78.2.1, .int en, .int o_78.2.2.1, .int o_52.2.2.1, .int o_60.2.2, .int o_78.2.2.2.1, .ref h9])), (h1, .inl (cC, 6, .inl na)), (h2, .inl (cI, 2, .inl o_78.2.2.2.2.1)), (h3, .inl (cI, 48, .inl o_78.2.2.2.2.2.1)), (h4, .inl (cI, 48, .inl o_78.2.2.2.2.2.2.1)), (h5, .inl (cZ, 48, .inl o_78.2.2.2.2.2.2.2.1)), (h6, .inl (cI, 48, .inl o_78.2.2.2.2.2.2.2.2.1)), (h7, .inl (cC, 288, .inl o_78.2.2.2.2.2.2.2.2.2.1)), (h8, .inl (cC, 3000, .inl pg)), (h9, .inl (cC, 6, .inl o_78.2.2.2.2.2.2.2.2.2.2))]) (va_runV (C := cn_M) (As := [.int x1, .int y0]) (rest := []) ⟨hx, hb, hml, hown, ht⟩ (c_M_testLine l dC dI cI cL cC cZ h0 h1 h2 h3 h4 h5 h6 h7 h8 h9 H_26.size bg ln o_69.2.1 en o_69.2.2.1 o_52.2.2.1 o_60.2.2 o_69.2.2.2.1 na o_69.2.2.2.2.1 o_69.2.2.2.2.2.1 o_69.2.2.2.2.2.2.1 o_69.2.2.2.2.2.2.2.1 o_69.2.2.2.2.2.2.2.2.1 o_69.2.2.2.2.2.2.2.2.2.1 pg o_69.2.2.2.2.2.2.2.2.2.2 x1 y0 _ ho_78) (cwV 2 ht (gi_V tw_4_25 tw_4_27 tw_p_41 tw_1_4 tw_4_28) rfl rfl rfl (by decide +kernel) ⟨Nat.le_of_ble_eq_true rfl, Nat.le_of_ble_eq_true rfl⟩) (jv_pv hK hP hD [0, 1, 2, 3, 4, 5, 6, 7, 8, 9] rfl (by decide) rfl (va_recv hK hP (ci := 6) (q0 := 0) rfl rfl)) rfl rfl hl.1 rfl (lv_room (Nat.le_of_ble_eq_true rfl)) dd_M_line_78 ⟨Nat.le_of_ble_eq_true rfl, Nat.le_of_ble_eq_true rfl⟩) hP hD hS hA [0, 1, 2, 3, 4, 5, 6, 7, 8, 9] [] rfl rfl (by decide) (by decide) (fun H_29 locs_30 hP hD hS => ?_)
          have hP : va_P (dC, dI) vwCl [(h0, .inr (6, [.int bg, .ref h1, .ref h2, .ref h3, .ref h4, .ref h5, .ref h6, .ref h7, .int ln, .ref h8, .int o_78.2.1, .int en, .int o_78.2.2.1, .int o_52.2.2.1, .int o_60.2.2, .int o_78.2.2.2.1, .ref h9])), (h1, .inl (cC, 6, .inl na)), (h2, .inl (cI, 2, .inl o_78.2.2.2.2.1)), (h3, .inl (cI, 48, .inl o_78.2.2.2.2.2.1)), (h4, .inl (cI, 48, .inl o_78.2.2.2.2.2.2.1)), (h5, .inl (cZ, 48, .inl o_78.2.2.2.2.2.2.2.1)), (h6, .inl (cI, 48, .inl o_78.2.2.2.2.2.2.2.2.1)), (h7, .inl (cC, 288, .inl o_78.2.2.2.2.2.2.2.2.2.1)), (h8, .inl (cC, 3000, .inl pg)), (h9, .inl (cC, 6, .inl o_78.2.2.2.2.2.2.2.2.2.2))] H_29 := hP.sub [0, 1, 2, 3, 4, 5, 6, 7, 8, 9] rfl
          have hD : va_D A [(h0, .inr (6, [.int bg, .ref h1, .ref h2, .ref h3, .ref h4, .ref h5, .ref h6, .ref h7, .int ln, .ref h8, .int o_78.2.1, .int en, .int o_78.2.2.1, .int o_52.2.2.1, .int o_60.2.2, .int o_78.2.2.2.1, .ref h9])), (h1, .inl (cC, 6, .inl na)), (h2, .inl (cI, 2, .inl o_78.2.2.2.2.1)), (h3, .inl (cI, 48, .inl o_78.2.2.2.2.2.1)), (h4, .inl (cI, 48, .inl o_78.2.2.2.2.2.2.1)), (h5, .inl (cZ, 48, .inl o_78.2.2.2.2.2.2.2.1)), (h6, .inl (cI, 48, .inl o_78.2.2.2.2.2.2.2.2.1)), (h7, .inl (cC, 288, .inl o_78.2.2.2.2.2.2.2.2.2.1)), (h8, .inl (cC, 3000, .inl pg)), (h9, .inl (cC, 6, .inl o_78.2.2.2.2.2.2.2.2.2.2))] := hD.sub [0, 1, 2, 3, 4, 5, 6, 7, 8, 9] (by decide) rfl
          refine lv_if_eq (tgt := 88) hx hb dd_M_line_81 (by decide) (fun c_31 => ?_) (fun c_31 => ?_)
          · have hF := jv_t c_31 hF
            refine lv_iconst (v := 0) hx hb dd_M_line_88 (by decide) ?_
            subst hQ
            obtain rfl := Option.some.inj hF
            exact W.zret (v := 0) hx hb hr rfl (fun t ht hW => ⟨⟨0, (), rfl, rfl, by rw [ht]; exact hP, va_K.moved hW.alike hK, hD⟩, hS.F ht⟩) hS.2.2 dd_M_line_89
          · have hF := jv_f c_31 hF
            refine lv_iconst (v := 1) hx hb dd_M_line_84 (by decide) ?_
            refine lv_goto (tgt := 89) hx hb dd_M_line_85 (by decide) ?_
            subst hQ
            obtain rfl := Option.some.inj hF
            exact W.zret (v := 1) hx hb hr rfl (fun t ht hW => ⟨⟨1, (), rfl, rfl, by rw [ht]; exact hP, va_K.moved hW.alike hK, hD⟩, hS.F ht⟩) hS.2.2 dd_M_line_89
  unfold fn_M_line at hF
  refine lv_aload_n hx hb dd_M_line_0 rfl (lv_at hl 0 rfl) ?_
  refine va_get (D := (dC, dI)) (ci := 6) (v := .int ov) (C := cn_M) (T := tt_M) (N := 17) hx hb ht in_M hown hK hP 0 rfl rfl 14 (by decide) (ht _ tw_3_55) (fun _ h9 => h9) rfl dd_M_line_1 ?_
  refine lv_if_eq (tgt := 9) hx hb dd_M_line_4 (by decide) (fun c_32 => ?_) (fun c_32 => ?_)
  · have hF := jv_t c_32 hF
    refine lv_aload_n hx hb dd_M_line_9 rfl (lv_at hl 0 rfl) ?_
    refine lv_iload_n hx hb dd_M_line_10 rfl (lv_at hl 1 rfl) ?_
    refine va_put (D := (dC, dI)) (ci := 6) (v := .int x1) (ty := .int) (C := cn_M) (T := tt_M) (N := 17) hx hb ht in_M ty_M tyok_M nm_M hown hK hP hD hS 0 rfl rfl 10 (by decide) (ht _ tw_3_51) (fun _ h9 => h9) rfl (by decide +kernel) rfl rfl (Nat.le_of_ble_eq_true rfl) dd_M_line_11 (fun H_33 locs_34 hP hD hS => ?_)
    have hP : va_P (dC, dI) vwCl [(h0, .inr (6, [.int bg, .ref h1, .ref h2, .ref h3, .ref h4, .ref h5, .ref h6, .ref h7, .int ln, .ref h8, .int x1, .int en, .int sx, .int pl, .int ov, .int tk, .ref h9])), (h1, .inl (cC, 6, .inl na)), (h2, .inl (cI, 2, .inl cu)), (h3, .inl (cI, 48, .inl pa)), (h4, .inl (cI, 48, .inl re)), (h5, .inl (cZ, 48, .inl cl)), (h6, .inl (cI, 48, .inl si)), (h7, .inl (cC, 288, .inl lt)), (h8, .inl (cC, 3000, .inl pg)), (h9, .inl (cC, 6, .inl rd))] H_33 := hP
    have hD : va_D A [(h0, .inr (6, [.int bg, .ref h1, .ref h2, .ref h3, .ref h4, .ref h5, .ref h6, .ref h7, .int ln, .ref h8, .int x1, .int en, .int sx, .int pl, .int ov, .int tk, .ref h9])), (h1, .inl (cC, 6, .inl na)), (h2, .inl (cI, 2, .inl cu)), (h3, .inl (cI, 48, .inl pa)), (h4, .inl (cI, 48, .inl re)), (h5, .inl (cZ, 48, .inl cl)), (h6, .inl (cI, 48, .inl si)), (h7, .inl (cC, 288, .inl lt)), (h8, .inl (cC, 3000, .inl pg)), (h9, .inl (cC, 6, .inl rd))] := hD
    refine lv_aload_n hx hb dd_M_line_14 rfl (lv_at hl 0 rfl) ?_
    refine va_get (D := (dC, dI)) (ci := 6) (v := .int pl) (C := cn_M) (T := tt_M) (N := 17) hx hb ht in_M hown hK hP 0 rfl rfl 13 (by decide) (ht _ tw_3_54) (fun _ h9 => h9) rfl dd_M_line_15 ?_
    refine lv_if_eq (tgt := 26) hx hb dd_M_line_18 (by decide) (fun c_35 => ?_) (fun c_35 => ?_)
    · have hF := jv_t c_35 hF
      refine lv_aload_n hx hb dd_M_line_26 rfl (lv_at hl 0 rfl) ?_
      refine va_get (D := (dC, dI)) (ci := 6) (v := .int sx) (C := cn_M) (T := tt_M) (N := 17) hx hb ht in_M hown hK hP 0 rfl rfl 12 (by decide) (ht _ tw_3_53) (fun _ h9 => h9) rfl dd_M_line_27 ?_
      refine lv_if_ge (tgt := 37) hx hb dd_M_line_30 (by decide) (fun c_36 => ?_) (fun c_36 => ?_)
      · have hF := jv_t c_36 hF
        refine lv_aload_n hx hb dd_M_line_37 rfl (lv_at hl 0 rfl) ?_
        refine lv_iconst (v := 1) hx hb dd_M_line_38 (by decide) ?_
        refine lv_aload_n hx hb dd_M_line_39 rfl (lv_at hl 0 rfl) ?_
        refine va_get (D := (dC, dI)) (ci := 6) (v := .int sx) (C := cn_M) (T := tt_M) (N := 17) hx hb ht in_M hown hK hP 0 rfl rfl 12 (by decide) (ht _ tw_3_53) (fun _ h9 => h9) rfl dd_M_line_40 ?_
        obtain ⟨o_43, ho_43, hF⟩ := jv_bi hF
        refine jv_ci (va_runV (C := cn_M) (As := [.int 1, .int sx]) (rest := []) ⟨hx, hb, hml, hown, ht⟩ (c_M_depthOf l dC dI cI cL cC cZ h0 h1 h2 h3 h4 h5 h6 h7 h8 h9 H_33.size bg ln x1 en sx pl ov tk na cu pa re cl si lt pg rd 1 sx _ ho_43) (cwV 2 ht (gi_V tw_3_106 tw_3_108 tw_p_15 tw_1_4 tw_3_109) rfl rfl rfl (by decide +kernel) ⟨Nat.le_of_ble_eq_true rfl, Nat.le_of_ble_eq_true rfl⟩) (jv_pv hK hP hD [0, 1, 2, 3, 4, 5, 6, 7, 8, 9] rfl (by decide) rfl (va_recv hK hP (ci := 6) (q0 := 0) rfl rfl)) rfl rfl hl.1 rfl (lv_room (Nat.le_of_ble_eq_true rfl)) dd_M_line_43 ⟨Nat.le_of_ble_eq_true rfl, Nat.le_of_ble_eq_true rfl⟩) ?_
        refine lv_iconst (v := 1) hx hb dd_M_line_46 (by decide) ?_
        refine lv_iadd hx hb dd_M_line_47 ?_
        exact bl48 x1 sx pl ov tk cu pa re cl si lt rd x1 (o_43 + 1) hF H_33 locs_34 hP hD hS ls (lv_sub hl [0, 1] rfl)
      · have hF := jv_f c_36 hF
        refine lv_iconst (v := 0) hx hb dd_M_line_33 (by decide) ?_
        refine lv_goto (tgt := 48) hx hb dd_M_line_34 (by decide) ?_
        exact bl48 x1 sx pl ov tk cu pa re cl si lt rd x1 0 hF H_33 locs_34 hP hD hS ls (lv_sub hl [0, 1] rfl)
    · have hF := jv_f c_35 hF
      refine lv_aload_n hx hb dd_M_line_21 rfl (lv_at hl 0 rfl) ?_
      obtain ⟨o_22, ho_22, hF⟩ := jv_bi hF
      refine jv_mi (wr := []) (w1 := [(h0, .inr (6, [.int bg, .ref h1, .ref h2, .ref h3, .ref h4, .ref h5, .ref h6, .ref h7, .int ln, .ref h8, .int o_22.2.1, .int en, .int o_22.2.2.1, .int o_22.2.2.2.1, .int ov, .int o_22.2.2.2.2.1, .ref h9])), (h1, .inl (cC, 6, .inl na)), (h2, .inl (cI, 2, .inl cu)), (h3, .inl (cI, 48, .inl pa)), (h4, .inl (cI, 48, .inl re)), (h5, .inl (cZ, 48, .inl o_22.2.2.2.2.2.1)), (h6, .inl (cI, 48, .inl si)), (h7, .inl (cC, 288, .inl lt)), (h8, .inl (cC, 3000, .inl pg)), (h9, .inl (cC, 6, .inl o_22.2.2.2.2.2.2))]) (va_runV (C := cn_M) (As := []) (rest := []) ⟨hx, hb, hml, hown, ht⟩ (c_M_closing l dC dI cI cL cC cZ h0 h1 h2 h3 h4 h5 h6 h7 h8 h9 H_33.size bg ln x1 en sx pl ov tk na cu pa re cl si lt pg rd _ ho_22) (cwV 0 ht (gi_V tw_3_225 tw_3_227 tw_p_31 tw_1_4 tw_3_228) rfl rfl rfl (by decide +kernel) ⟨Nat.le_of_ble_eq_true rfl, Nat.le_of_ble_eq_true rfl⟩) (jv_pv hK hP hD [0, 1, 2, 3, 4, 5, 6, 7, 8, 9] rfl (by decide) rfl (va_recv hK hP (ci := 6) (q0 := 0) rfl rfl)) rfl rfl hl.1 rfl (lv_room (Nat.le_of_ble_eq_true rfl)) dd_M_line_22 ⟨Nat.le_of_ble_eq_true rfl, Nat.le_of_ble_eq_true rfl⟩) hP hD hS hA [0, 1, 2, 3, 4, 5, 6, 7, 8, 9] [] rfl rfl (by decide) (by decide) (fun H_37 locs_38 hP hD hS => ?_)
      have hP : va_P (dC, dI) vwCl [(h0, .inr (6, [.int bg, .ref h1, .ref h2, .ref h3, .ref h4, .ref h5, .ref h6, .ref h7, .int ln, .ref h8, .int o_22.2.1, .int en, .int o_22.2.2.1, .int o_22.2.2.2.1, .int ov, .int o_22.2.2.2.2.1, .ref h9])), (h1, .inl (cC, 6, .inl na)), (h2, .inl (cI, 2, .inl cu)), (h3, .inl (cI, 48, .inl pa)), (h4, .inl (cI, 48, .inl re)), (h5, .inl (cZ, 48, .inl o_22.2.2.2.2.2.1)), (h6, .inl (cI, 48, .inl si)), (h7, .inl (cC, 288, .inl lt)), (h8, .inl (cC, 3000, .inl pg)), (h9, .inl (cC, 6, .inl o_22.2.2.2.2.2.2))] H_37 := hP.sub [0, 1, 2, 3, 4, 5, 6, 7, 8, 9] rfl
      have hD : va_D A [(h0, .inr (6, [.int bg, .ref h1, .ref h2, .ref h3, .ref h4, .ref h5, .ref h6, .ref h7, .int ln, .ref h8, .int o_22.2.1, .int en, .int o_22.2.2.1, .int o_22.2.2.2.1, .int ov, .int o_22.2.2.2.2.1, .ref h9])), (h1, .inl (cC, 6, .inl na)), (h2, .inl (cI, 2, .inl cu)), (h3, .inl (cI, 48, .inl pa)), (h4, .inl (cI, 48, .inl re)), (h5, .inl (cZ, 48, .inl o_22.2.2.2.2.2.1)), (h6, .inl (cI, 48, .inl si)), (h7, .inl (cC, 288, .inl lt)), (h8, .inl (cC, 3000, .inl pg)), (h9, .inl (cC, 6, .inl o_22.2.2.2.2.2.2))] := hD.sub [0, 1, 2, 3, 4, 5, 6, 7, 8, 9] (by decide) rfl
      obtain ⟨z_39, hF⟩ := jv_gi hF
      subst hQ
      obtain rfl := Option.some.inj hF
      exact W.zret (v := o_22.1) hx hb hr (jv_zn z_39).1 (fun t ht hW => ⟨⟨o_22.1, (), rfl, rfl, by rw [ht]; exact hP, va_K.moved hW.alike hK, hD⟩, hS.F ht⟩) hS.2.2 dd_M_line_25
  · have hF := jv_f c_32 hF
    refine lv_iconst (v := 0) hx hb dd_M_line_7 (by decide) ?_
    subst hQ
    obtain rfl := Option.some.inj hF
    exact W.zret (v := 0) hx hb hr rfl (fun t ht hW => ⟨⟨0, (), rfl, rfl, by rw [ht]; exact hP, va_K.moved hW.alike hK, hD⟩, hS.F ht⟩) hS.2.2 dd_M_line_8
