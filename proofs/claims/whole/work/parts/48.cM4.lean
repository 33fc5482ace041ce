set_option maxHeartbeats 40000000 in
set_option maxRecDepth 100000 in
theorem c_M_adopt (l : Launch) (dC : Nat → ClassId) (dI : Nat → Nat → Nat) (cI cL cC cZ : ClassId) (h0 h1 h2 h3 h4 h5 h6 h7 h8 h9 : Nat) (sz : Nat) (bg : Int32) (ln : Int32) (mt : Int32) (en : Int32) (sx : Int32) (pl : Int32) (ov : Int32) (tk : Int32) (na : Nat → Int32) (cu : Nat → Int32) (pa : Nat → Int32) (re : Nat → Int32) (cl : Nat → Int32) (si : Nat → Int32) (lt : Nat → Int32) (pg : Nat → Int32) (rd : Nat → Int32)  (out : (Nat → Int32) × (Nat → Int32) × (Nat → Int32) × (Nat → Int32) × (Nat → Int32) × (Nat → Int32)) (hF : fn_M_adopt cu pa re cl si lt = some out) : Met l yy_M_adopt ws_M_adopt { frames := 0, cells := 0, slots := 0, locals := 0 } (mP_ (dC, dI) (tk_ cI cL cC cZ) [(h0, .inr (6, [.int bg, .ref h1, .ref h2, .ref h3, .ref h4, .ref h5, .ref h6, .ref h7, .int ln, .ref h8, .int mt, .int en, .int sx, .int pl, .int ov, .int tk, .ref h9])), (h1, .inl (cC, 6, .inl na)), (h2, .inl (cI, 2, .inl cu)), (h3, .inl (cI, 48, .inl pa)), (h4, .inl (cI, 48, .inl re)), (h5, .inl (cZ, 48, .inl cl)), (h6, .inl (cI, 48, .inl si)), (h7, .inl (cC, 288, .inl lt)), (h8, .inl (cC, 3000, .inl pg)), (h9, .inl (cC, 6, .inl rd))] sz [.ref h0]) (va_Qv (fun _ : Unit => True) (mB_ (dC, dI) (tk_ cI cL cC cZ) [(h0, .inr (6, [.int bg, .ref h1, .ref h2, .ref h3, .ref h4, .ref h5, .ref h6, .ref h7, .int ln, .ref h8, .int mt, .int en, .int sx, .int pl, .int ov, .int tk, .ref h9])), (h1, .inl (cC, 6, .inl na)), (h2, .inl (cI, 2, .inl out.1)), (h3, .inl (cI, 48, .inl out.2.1)), (h4, .inl (cI, 48, .inl out.2.2.1)), (h5, .inl (cZ, 48, .inl out.2.2.2.1)), (h6, .inl (cI, 48, .inl out.2.2.2.2.1)), (h7, .inl (cC, 288, .inl out.2.2.2.2.2)), (h8, .inl (cC, 3000, .inl pg)), (h9, .inl (cC, 6, .inl rd))] (va_A [(h0, .inr (6, [.int bg, .ref h1, .ref h2, .ref h3, .ref h4, .ref h5, .ref h6, .ref h7, .int ln, .ref h8, .int mt, .int en, .int sx, .int pl, .int ov, .int tk, .ref h9])), (h1, .inl (cC, 6, .inl na)), (h2, .inl (cI, 2, .inl cu)), (h3, .inl (cI, 48, .inl pa)), (h4, .inl (cI, 48, .inl re)), (h5, .inl (cZ, 48, .inl cl)), (h6, .inl (cI, 48, .inl si)), (h7, .inl (cC, 288, .inl lt)), (h8, .inl (cC, 3000, .inl pg)), (h9, .inl (cC, 6, .inl rd))] sz)) (va_A [(h0, .inr (6, [.int bg, .ref h1, .ref h2, .ref h3, .ref h4, .ref h5, .ref h6, .ref h7, .int ln, .ref h8, .int mt, .int en, .int sx, .int pl, .int ov, .int tk, .ref h9])), (h1, .inl (cC, 6, .inl na)), (h2, .inl (cI, 2, .inl cu)), (h3, .inl (cI, 48, .inl pa)), (h4, .inl (cI, 48, .inl re)), (h5, .inl (cZ, 48, .inl cl)), (h6, .inl (cI, 48, .inl si)), (h7, .inl (cC, 288, .inl lt)), (h8, .inl (cC, 3000, .inl pg)), (h9, .inl (cC, 6, .inl rd))] sz)) 0 0 (va_A [(h0, .inr (6, [.int bg, .ref h1, .ref h2, .ref h3, .ref h4, .ref h5, .ref h6, .ref h7, .int ln, .ref h8, .int mt, .int en, .int sx, .int pl, .int ov, .int tk, .ref h9])), (h1, .inl (cC, 6, .inl na)), (h2, .inl (cI, 2, .inl cu)), (h3, .inl (cI, 48, .inl pa)), (h4, .inl (cI, 48, .inl re)), (h5, .inl (cZ, 48, .inl cl)), (h6, .inl (cI, 48, .inl si)), (h7, .inl (cC, 288, .inl lt)), (h8, .inl (cC, 3000, .inl pg)), (h9, .inl (cC, 6, .inl rd))] sz) := by
  refine Met.ofW (cc := cc_M_adopt) (maxL := 2) (ret := none) (by decide) rfl ?_
  intro p e s m args below meth c s₁ B hml hv
  obtain ⟨hargs, hsz, hP, hK, hD0⟩ := hv
  have hx := B.exec
  have hb := B.bytes
  have hr := B.returns
  have hts := atoms_spec (ws := ws_M_adopt) B.pre
  have ht : ∀ w ∈ TB_, w.before args s = true := fun w h => hts w (List.mem_cons_of_mem _ h)
  have hown : s.vm.findClass cn_M = some m.cls := findClass_of_methodNamed B.named
  have hlocks := B.notSynchronized
  subst hsz
  have hD := hD0.self (sz := s.heap.size)
  generalize hAe : va_A [(h0, .inr (6, [.int bg, .ref h1, .ref h2, .ref h3, .ref h4, .ref h5, .ref h6, .ref h7, .int ln, .ref h8, .int mt, .int en, .int sx, .int pl, .int ov, .int tk, .ref h9])), (h1, .inl (cC, 6, .inl na)), (h2, .inl (cI, 2, .inl cu)), (h3, .inl (cI, 48, .inl pa)), (h4, .inl (cI, 48, .inl re)), (h5, .inl (cZ, 48, .inl cl)), (h6, .inl (cI, 48, .inl si)), (h7, .inl (cC, 288, .inl lt)), (h8, .inl (cC, 3000, .inl pg)), (h9, .inl (cC, 6, .inl rd))] s.heap.size = A at hD ⊢
  have hA : ∀ q : Nat, s.heap.size ≤ q → A q := fun q h => by rw [← hAe]; exact Or.inr h
  have hS : va_S A s.heap s.heap [] := va_S.rf
  have hP : va_P (dC, dI) vwCl [(h0, .inr (6, [.int bg, .ref h1, .ref h2, .ref h3, .ref h4, .ref h5, .ref h6, .ref h7, .int ln, .ref h8, .int mt, .int en, .int sx, .int pl, .int ov, .int tk, .ref h9])), (h1, .inl (cC, 6, .inl na)), (h2, .inl (cI, 2, .inl cu)), (h3, .inl (cI, 48, .inl pa)), (h4, .inl (cI, 48, .inl re)), (h5, .inl (cZ, 48, .inl cl)), (h6, .inl (cI, 48, .inl si)), (h7, .inl (cC, 288, .inl lt)), (h8, .inl (cC, 3000, .inl pg)), (h9, .inl (cC, 6, .inl rd))] s.heap := hP
  have hl := lv_entry [.ref h0] (n := 2) (Nat.le_of_ble_eq_true rfl)
  have he : entryFrame m args 2 = _ := (congrArg (fun a => entryFrame m a 2) hargs).trans (lg_entry_eq m [.ref h0] 2)
  rw [he]
  generalize (lg_sl [.ref h0] ++ List.replicate (2 - (lg_sl [.ref h0]).length) Slot.unset).toArray = ls at hl ⊢
  have hl : lv_has ls 2 [(0, .ref h0)] := hl
  generalize hQ : MQ below _ args s _ _ _ = Q
  have lp88 : ∀ (n88 : Nat), ∀ (cu : Nat → Int32) (pa : Nat → Int32) (re : Nat → Int32) (cl : Nat → Int32) (si : Nat → Int32) (lt : Nat → Int32) (x1 : Int32), fl_M_adopt_88   n88 (cu, pa, re, cl, si, lt, x1) = some out → ∀ (H : Heap) (locs : List Loc), va_P (dC, dI) vwCl [(h0, .inr (6, [.int bg, .ref h1, .ref h2, .ref h3, .ref h4, .ref h5, .ref h6, .ref h7, .int ln, .ref h8, .int mt, .int en, .int sx, .int pl, .int ov, .int tk, .ref h9])), (h1, .inl (cC, 6, .inl na)), (h2, .inl (cI, 2, .inl cu)), (h3, .inl (cI, 48, .inl pa)), (h4, .inl (cI, 48, .inl re)), (h5, .inl (cZ, 48, .inl cl)), (h6, .inl (cI, 48, .inl si)), (h7, .inl (cC, 288, .inl lt)), (h8, .inl (cC, 3000, .inl pg)), (h9, .inl (cC, 6, .inl rd))] H → va_D A [(h0, .inr (6, [.int bg, .ref h1, .ref h2, .ref h3, .ref h4, .ref h5, .ref h6, .ref h7, .int ln, .ref h8, .int mt, .int en, .int sx, .int pl, .int ov, .int tk, .ref h9])), (h1, .inl (cC, 6, .inl na)), (h2, .inl (cI, 2, .inl cu)), (h3, .inl (cI, 48, .inl pa)), (h4, .inl (cI, 48, .inl re)), (h5, .inl (cZ, 48, .inl cl)), (h6, .inl (cI, 48, .inl si)), (h7, .inl (cC, 288, .inl lt)), (h8, .inl (cC, 3000, .inl pg)), (h9, .inl (cC, 6, .inl rd))] → va_S A s.heap H locs → ∀ ls : Array Slot, lv_has ls 2 [(0, .ref h0), (1, .int x1)] → W p l e (headSpec ws_M_adopt { frames := 0, cells := 0, slots := 0, locals := 0 }).room s m args below meth c H locs 0 0 Q (F0 m 88 ls []) := by
    intro n88
    induction n88 with
    | zero =>
      intro cu pa re cl si lt x1 hF
      exact (jv_no hF).elim
    | succ n88 ih88 =>
      intro cu pa re cl si lt x1 hF H locs hP hD hS ls hl
      have hF : fb_M_adopt_88   (fl_M_adopt_88   n88) cu pa re cl si lt x1 = some out := hF
      unfold fb_M_adopt_88 at hF
      refine lv_iload_n hx hb dd_M_adopt_88 rfl (lv_at hl 1 rfl) ?_
      refine lv_sipush (v := 144) hx hb dd_M_adopt_89 (by decide) ?_
      refine lv_icmp_ge (tgt := 117) hx hb dd_M_adopt_92 (by decide) (fun c_27 => ?_) (fun c_27 => ?_)
      · have hF := jv_t c_27 hF
        subst hQ
        obtain rfl := Option.some.inj hF
        exact W.vret hx hb hr (fun t ht hW => ⟨⟨(), rfl, trivial, by rw [ht]; exact hP, va_K.moved hW.alike hK, hD⟩, hS.F ht⟩) hS.2.2 dd_M_adopt_117
      · have hF := jv_f c_27 hF
        refine lv_aload_n hx hb dd_M_adopt_95 rfl (lv_at hl 0 rfl) ?_
        refine va_get (D := (dC, dI)) (ci := 6) (v := .ref h7) (C := cn_M) (T := tt_M) (N := 17) hx hb ht in_M hown hK hP 0 rfl rfl 7 (by decide) (ht _ tw_3_48) (fun _ h9 => h9) rfl dd_M_adopt_96 ?_
        refine lv_iload_n hx hb dd_M_adopt_99 rfl (lv_at hl 1 rfl) ?_
        refine lv_aload_n hx hb dd_M_adopt_100 rfl (lv_at hl 0 rfl) ?_
        refine va_get (D := (dC, dI)) (ci := 6) (v := .ref h7) (C := cn_M) (T := tt_M) (N := 17) hx hb ht in_M hown hK hP 0 rfl rfl 7 (by decide) (ht _ tw_3_48) (fun _ h9 => h9) rfl dd_M_adopt_101 ?_
        refine lv_sipush (v := 144) hx hb dd_M_adopt_104 (by decide) ?_
        refine lv_iload_n hx hb dd_M_adopt_107 rfl (lv_at hl 1 rfl) ?_
        refine lv_iadd hx hb dd_M_adopt_108 ?_
        obtain ⟨g_28, hF⟩ := jv_gi hF
        refine va_cald hx hb hK hP 7 2 rfl rfl (jv_in g_28) dd_M_adopt_109 ?_
        obtain ⟨g_29, hF⟩ := jv_gi hF
        refine va_cast hx hb hK hP hD hS 7 2 rfl rfl (jv_in g_29) dd_M_adopt_110 (fun H_30 locs_31 hP hD hS => ?_)
        have hP : va_P (dC, dI) vwCl [(h0, .inr (6, [.int bg, .ref h1, .ref h2, .ref h3, .ref h4, .ref h5, .ref h6, .ref h7, .int ln, .ref h8, .int mt, .int en, .int sx, .int pl, .int ov, .int tk, .ref h9])), (h1, .inl (cC, 6, .inl na)), (h2, .inl (cI, 2, .inl cu)), (h3, .inl (cI, 48, .inl pa)), (h4, .inl (cI, 48, .inl re)), (h5, .inl (cZ, 48, .inl cl)), (h6, .inl (cI, 48, .inl si)), (h7, .inl (cC, 288, .inl (upd lt x1.toNatClampNeg (vp_nar .char (lt (144 + x1).toNatClampNeg))))), (h8, .inl (cC, 3000, .inl pg)), (h9, .inl (cC, 6, .inl rd))] H_30 := hP
        have hD : va_D A [(h0, .inr (6, [.int bg, .ref h1, .ref h2, .ref h3, .ref h4, .ref h5, .ref h6, .ref h7, .int ln, .ref h8, .int mt, .int en, .int sx, .int pl, .int ov, .int tk, .ref h9])), (h1, .inl (cC, 6, .inl na)), (h2, .inl (cI, 2, .inl cu)), (h3, .inl (cI, 48, .inl pa)), (h4, .inl (cI, 48, .inl re)), (h5, .inl (cZ, 48, .inl cl)), (h6, .inl (cI, 48, .inl si)), (h7, .inl (cC, 288, .inl (upd lt x1.toNatClampNeg (vp_nar .char (lt (144 + x1).toNatClampNeg))))), (h8, .inl (cC, 3000, .inl pg)), (h9, .inl (cC, 6, .inl rd))] := hD
        refine lv_iinc (v := x1 + 1) (lv' := [(1, .int (x1 + 1)), (0, .ref h0)]) hx hb dd_M_adopt_111 hl (k := 1) rfl rfl (by decide) rfl (fun ls hl => ?_)
        refine lv_goto (tgt := 88) hx hb dd_M_adopt_114 (by decide) ?_
        exact ih88 cu pa re cl si (upd lt x1.toNatClampNeg (vp_nar .char (lt (144 + x1).toNatClampNeg))) (x1 + 1) hF H_30 locs_31 hP hD hS ls (lv_sub hl [1, 0] rfl)
  have lp14 : ∀ (n14 : Nat), ∀ (cu : Nat → Int32) (pa : Nat → Int32) (re : Nat → Int32) (cl : Nat → Int32) (si : Nat → Int32) (lt : Nat → Int32) (x1 : Int32), fl_M_adopt_14   n14 (cu, pa, re, cl, si, lt, x1) = some out → ∀ (H : Heap) (locs : List Loc), va_P (dC, dI) vwCl [(h0, .inr (6, [.int bg, .ref h1, .ref h2, .ref h3, .ref h4, .ref h5, .ref h6, .ref h7, .int ln, .ref h8, .int mt, .int en, .int sx, .int pl, .int ov, .int tk, .ref h9])), (h1, .inl (cC, 6, .inl na)), (h2, .inl (cI, 2, .inl cu)), (h3, .inl (cI, 48, .inl pa)), (h4, .inl (cI, 48, .inl re)), (h5, .inl (cZ, 48, .inl cl)), (h6, .inl (cI, 48, .inl si)), (h7, .inl (cC, 288, .inl lt)), (h8, .inl (cC, 3000, .inl pg)), (h9, .inl (cC, 6, .inl rd))] H → va_D A [(h0, .inr (6, [.int bg, .ref h1, .ref h2, .ref h3, .ref h4, .ref h5, .ref h6, .ref h7, .int ln, .ref h8, .int mt, .int en, .int sx, .int pl, .int ov, .int tk, .ref h9])), (h1, .inl (cC, 6, .inl na)), (h2, .inl (cI, 2, .inl cu)), (h3, .inl (cI, 48, .inl pa)), (h4, .inl (cI, 48, .inl re)), (h5, .inl (cZ, 48, .inl cl)), (h6, .inl (cI, 48, .inl si)), (h7, .inl (cC, 288, .inl lt)), (h8, .inl (cC, 3000, .inl pg)), (h9, .inl (cC, 6, .inl rd))] → va_S A s.heap H locs → ∀ ls : Array Slot, lv_has ls 2 [(0, .ref h0), (1, .int x1)] → W p l e (headSpec ws_M_adopt { frames := 0, cells := 0, slots := 0, locals := 0 }).room s m args below meth c H locs 0 0 Q (F0 m 14 ls []) := by
    intro n14
    induction n14 with
    | zero =>
      intro cu pa re cl si lt x1 hF
      exact (jv_no hF).elim
    | succ n14 ih14 =>
      intro cu pa re cl si lt x1 hF H locs hP hD hS ls hl
      have hF : fb_M_adopt_14   (fl_M_adopt_14   n14) cu pa re cl si lt x1 = some out := hF
      unfold fb_M_adopt_14 at hF
      refine lv_iload_n hx hb dd_M_adopt_14 rfl (lv_at hl 1 rfl) ?_
      refine lv_bipush (v := 24) hx hb dd_M_adopt_15 (by decide) ?_
      refine lv_icmp_ge (tgt := 86) hx hb dd_M_adopt_17 (by decide) (fun c_32 => ?_) (fun c_32 => ?_)
      · have hF := jv_t c_32 hF
        refine lv_iconst (v := 0) hx hb dd_M_adopt_86 (by decide) ?_
        refine lv_istore_n (lv' := [(1, .int 0), (0, .ref h0)]) hx hb dd_M_adopt_87 rfl hl (by decide) rfl (fun ls hl => ?_)
        exact lp88 4000 cu pa re cl si lt 0 hF H locs hP hD hS ls (lv_sub hl [1, 0] rfl)
      · have hF := jv_f c_32 hF
        refine lv_aload_n hx hb dd_M_adopt_20 rfl (lv_at hl 0 rfl) ?_
        refine va_get (D := (dC, dI)) (ci := 6) (v := .ref h3) (C := cn_M) (T := tt_M) (N := 17) hx hb ht in_M hown hK hP 0 rfl rfl 3 (by decide) (ht _ tw_3_44) (fun _ h9 => h9) rfl dd_M_adopt_21 ?_
        refine lv_iload_n hx hb dd_M_adopt_24 rfl (lv_at hl 1 rfl) ?_
        refine lv_aload_n hx hb dd_M_adopt_25 rfl (lv_at hl 0 rfl) ?_
        refine va_get (D := (dC, dI)) (ci := 6) (v := .ref h3) (C := cn_M) (T := tt_M) (N := 17) hx hb ht in_M hown hK hP 0 rfl rfl 3 (by decide) (ht _ tw_3_44) (fun _ h9 => h9) rfl dd_M_adopt_26 ?_
        refine lv_bipush (v := 24) hx hb dd_M_adopt_29 (by decide) ?_
        refine lv_iload_n hx hb dd_M_adopt_31 rfl (lv_at hl 1 rfl) ?_
        refine lv_iadd hx hb dd_M_adopt_32 ?_
        obtain ⟨g_33, hF⟩ := jv_gi hF
        refine va_iald hx hb hK hP 3 0 rfl rfl (jv_in g_33) dd_M_adopt_33 ?_
        obtain ⟨g_34, hF⟩ := jv_gi hF
        refine va_iast hx hb hK hP hD hS 3 0 rfl rfl (jv_in g_34) dd_M_adopt_34 (fun H_35 locs_36 hP hD hS => ?_)
        have hP : va_P (dC, dI) vwCl [(h0, .inr (6, [.int bg, .ref h1, .ref h2, .ref h3, .ref h4, .ref h5, .ref h6, .ref h7, .int ln, .ref h8, .int mt, .int en, .int sx, .int pl, .int ov, .int tk, .ref h9])), (h1, .inl (cC, 6, .inl na)), (h2, .inl (cI, 2, .inl cu)), (h3, .inl (cI, 48, .inl (upd pa x1.toNatClampNeg (pa (24 + x1).toNatClampNeg)))), (h4, .inl (cI, 48, .inl re)), (h5, .inl (cZ, 48, .inl cl)), (h6, .inl (cI, 48, .inl si)), (h7, .inl (cC, 288, .inl lt)), (h8, .inl (cC, 3000, .inl pg)), (h9, .inl (cC, 6, .inl rd))] H_35 := hP
        have hD : va_D A [(h0, .inr (6, [.int bg, .ref h1, .ref h2, .ref h3, .ref h4, .ref h5, .ref h6, .ref h7, .int ln, .ref h8, .int mt, .int en, .int sx, .int pl, .int ov, .int tk, .ref h9])), (h1, .inl (cC, 6, .inl na)), (h2, .inl (cI, 2, .inl cu)), (h3, .inl (cI, 48, .inl (upd pa x1.toNatClampNeg (pa (24 + x1).toNatClampNeg)))), (h4, .inl (cI, 48, .inl re)), (h5, .inl (cZ, 48, .inl cl)), (h6, .inl (cI, 48, .inl si)), (h7, .inl (cC, 288, .inl lt)), (h8, .inl (cC, 3000, .inl pg)), (h9, .inl (cC, 6, .inl rd))] := hD
        refine lv_aload_n hx hb dd_M_adopt_35 rfl (lv_at hl 0 rfl) ?_
        refine va_get (D := (dC, dI)) (ci := 6) (v := .ref h4) (C := cn_M) (T := tt_M) (N := 17) hx hb ht in_M hown hK hP 0 rfl rfl 4 (by decide) (ht _ tw_3_45) (fun _ h9 => h9) rfl dd_M_adopt_36 ?_
        refine lv_iload_n hx hb dd_M_adopt_39 rfl (lv_at hl 1 rfl) ?_
        refine lv_aload_n hx hb dd_M_adopt_40 rfl (lv_at hl 0 rfl) ?_
        refine va_get (D := (dC, dI)) (ci := 6) (v := .ref h4) (C := cn_M) (T := tt_M) (N := 17) hx hb ht in_M hown hK hP 0 rfl rfl 4 (by decide) (ht _ tw_3_45) (fun _ h9 => h9) rfl dd_M_adopt_41 ?_
        refine lv_bipush (v := 24) hx hb dd_M_adopt_44 (by decide) ?_
        refine lv_iload_n hx hb dd_M_adopt_46 rfl (lv_at hl 1 rfl) ?_
        refine lv_iadd hx hb dd_M_adopt_47 ?_
        obtain ⟨g_37, hF⟩ := jv_gi hF
        refine va_iald hx hb hK hP 4 0 rfl rfl (jv_in g_37) dd_M_adopt_48 ?_
        obtain ⟨g_38, hF⟩ := jv_gi hF
        refine va_iast hx hb hK hP hD hS 4 0 rfl rfl (jv_in g_38) dd_M_adopt_49 (fun H_39 locs_40 hP hD hS => ?_)
        have hP : va_P (dC, dI) vwCl [(h0, .inr (6, [.int bg, .ref h1, .ref h2, .ref h3, .ref h4, .ref h5, .ref h6, .ref h7, .int ln, .ref h8, .int mt, .int en, .int sx, .int pl, .int ov, .int tk, .ref h9])), (h1, .inl (cC, 6, .inl na)), (h2, .inl (cI, 2, .inl cu)), (h3, .inl (cI, 48, .inl (upd pa x1.toNatClampNeg (pa (24 + x1).toNatClampNeg)))), (h4, .inl (cI, 48, .inl (upd re x1.toNatClampNeg (re (24 + x1).toNatClampNeg)))), (h5, .inl (cZ, 48, .inl cl)), (h6, .inl (cI, 48, .inl si)), (h7, .inl (cC, 288, .inl lt)), (h8, .inl (cC, 3000, .inl pg)), (h9, .inl (cC, 6, .inl rd))] H_39 := hP
        have hD : va_D A [(h0, .inr (6, [.int bg, .ref h1, .ref h2, .ref h3, .ref h4, .ref h5, .ref h6, .ref h7, .int ln, .ref h8, .int mt, .int en, .int sx, .int pl, .int ov, .int tk, .ref h9])), (h1, .inl (cC, 6, .inl na)), (h2, .inl (cI, 2, .inl cu)), (h3, .inl (cI, 48, .inl (upd pa x1.toNatClampNeg (pa (24 + x1).toNatClampNeg)))), (h4, .inl (cI, 48, .inl (upd re x1.toNatClampNeg (re (24 + x1).toNatClampNeg)))), (h5, .inl (cZ, 48, .inl cl)), (h6, .inl (cI, 48, .inl si)), (h7, .inl (cC, 288, .inl lt)), (h8, .inl (cC, 3000, .inl pg)), (h9, .inl (cC, 6, .inl rd))] := hD
        refine lv_aload_n hx hb dd_M_adopt_50 rfl (lv_at hl 0 rfl) ?_
        refine va_get (D := (dC, dI)) (ci := 6) (v := .ref h5) (C := cn_M) (T := tt_M) (N := 17) hx hb ht in_M hown hK hP 0 rfl rfl 5 (by decide) (ht _ tw_3_46) (fun _ h9 => h9) rfl dd_M_adopt_51 ?_
        refine lv_iload_n hx hb dd_M_adopt_54 rfl (lv_at hl 1 rfl) ?_
        refine lv_aload_n hx hb dd_M_adopt_55 rfl (lv_at hl 0 rfl) ?_
        refine va_get (D := (dC, dI)) (ci := 6) (v := .ref h5) (C := cn_M) (T := tt_M) (N := 17) hx hb ht in_M hown hK hP 0 rfl rfl 5 (by decide) (ht _ tw_3_46) (fun _ h9 => h9) rfl dd_M_adopt_56 ?_
        refine lv_bipush (v := 24) hx hb dd_M_adopt_59 (by decide) ?_
        refine lv_iload_n hx hb dd_M_adopt_61 rfl (lv_at hl 1 rfl) ?_
        refine lv_iadd hx hb dd_M_adopt_62 ?_
        obtain ⟨g_41, hF⟩ := jv_gi hF
        refine va_zald hx hb hK hP 5 3 rfl rfl (jv_in g_41) dd_M_adopt_63 ?_
        obtain ⟨g_42, hF⟩ := jv_gi hF
        refine va_zast hx hb hK hP hD hS 5 3 rfl rfl (jv_in g_42) dd_M_adopt_64 (fun H_43 locs_44 hP hD hS => ?_)
        have hP : va_P (dC, dI) vwCl [(h0, .inr (6, [.int bg, .ref h1, .ref h2, .ref h3, .ref h4, .ref h5, .ref h6, .ref h7, .int ln, .ref h8, .int mt, .int en, .int sx, .int pl, .int ov, .int tk, .ref h9])), (h1, .inl (cC, 6, .inl na)), (h2, .inl (cI, 2, .inl cu)), (h3, .inl (cI, 48, .inl (upd pa x1.toNatClampNeg (pa (24 + x1).toNatClampNeg)))), (h4, .inl (cI, 48, .inl (upd re x1.toNatClampNeg (re (24 + x1).toNatClampNeg)))), (h5, .inl (cZ, 48, .inl (upd cl x1.toNatClampNeg (vp_nar .boolean (cl (24 + x1).toNatClampNeg))))), (h6, .inl (cI, 48, .inl si)), (h7, .inl (cC, 288, .inl lt)), (h8, .inl (cC, 3000, .inl pg)), (h9, .inl (cC, 6, .inl rd))] H_43 := hP
        have hD : va_D A [(h0, .inr (6, [.int bg, .ref h1, .ref h2, .ref h3, .ref h4, .ref h5, .ref h6, .ref h7, .int ln, .ref h8, .int mt, .int en, .int sx, .int pl, .int ov, .int tk, .ref h9])), (h1, .inl (cC, 6, .inl na)), (h2, .inl (cI, 2, .inl cu)), (h3, .inl (cI, 48, .inl (upd pa x1.toNatClampNeg (pa (24 + x1).toNatClampNeg)))), (h4, .inl (cI, 48, .inl (upd re x1.toNatClampNeg (re (24 + x1).toNatClampNeg)))), (h5, .inl (cZ, 48, .inl (upd cl x1.toNatClampNeg (vp_nar .boolean (cl (24 + x1).toNatClampNeg))))), (h6, .inl (cI, 48, .inl si)), (h7, .inl (cC, 288, .inl lt)), (h8, .inl (cC, 3000, .inl pg)), (h9, .inl (cC, 6, .inl rd))] := hD
        refine lv_aload_n hx hb dd_M_adopt_65 rfl (lv_at hl 0 rfl) ?_
        refine va_get (D := (dC, dI)) (ci := 6) (v := .ref h6) (C := cn_M) (T := tt_M) (N := 17) hx hb ht in_M hown hK hP 0 rfl rfl 6 (by decide) (ht _ tw_3_47) (fun _ h9 => h9) rfl dd_M_adopt_66 ?_
        refine lv_iload_n hx hb dd_M_adopt_69 rfl (lv_at hl 1 rfl) ?_
        refine lv_aload_n hx hb dd_M_adopt_70 rfl (lv_at hl 0 rfl) ?_
        refine va_get (D := (dC, dI)) (ci := 6) (v := .ref h6) (C := cn_M) (T := tt_M) (N := 17) hx hb ht in_M hown hK hP 0 rfl rfl 6 (by decide) (ht _ tw_3_47) (fun _ h9 => h9) rfl dd_M_adopt_71 ?_
        refine lv_bipush (v := 24) hx hb dd_M_adopt_74 (by decide) ?_
        refine lv_iload_n hx hb dd_M_adopt_76 rfl (lv_at hl 1 rfl) ?_
        refine lv_iadd hx hb dd_M_adopt_77 ?_
        obtain ⟨g_45, hF⟩ := jv_gi hF
        refine va_iald hx hb hK hP 6 0 rfl rfl (jv_in g_45) dd_M_adopt_78 ?_
        obtain ⟨g_46, hF⟩ := jv_gi hF
        refine va_iast hx hb hK hP hD hS 6 0 rfl rfl (jv_in g_46) dd_M_adopt_79 (fun H_47 locs_48 hP hD hS => ?_)
        have hP : va_P (dC, dI) vwCl [(h0, .inr (6, [.int bg, .ref h1, .ref h2, .ref h3, .ref h4, .ref h5, .ref h6, .ref h7, .int ln, .ref h8, .int mt, .int en, .int sx, .int pl, .int ov, .int tk, .ref h9])), (h1, .inl (cC, 6, .inl na)), (h2, .inl (cI, 2, .inl cu)), (h3, .inl (cI, 48, .inl (upd pa x1.toNatClampNeg (pa (24 + x1).toNatClampNeg)))), (h4, .inl (cI, 48, .inl (upd re x1.toNatClampNeg (re (24 + x1).toNatClampNeg)))), (h5, .inl (cZ, 48, .inl (upd cl x1.toNatClampNeg (vp_nar .boolean (cl (24 + x1).toNatClampNeg))))), (h6, .inl (cI, 48, .inl (upd si x1.toNatClampNeg (si (24 + x1).toNatClampNeg)))), (h7, .inl (cC, 288, .inl lt)), (h8, .inl (cC, 3000, .inl pg)), (h9, .inl (cC, 6, .inl rd))] H_47 := hP
        have hD : va_D A [(h0, .inr (6, [.int bg, .ref h1, .ref h2, .ref h3, .ref h4, .ref h5, .ref h6, .ref h7, .int ln, .ref h8, .int mt, .int en, .int sx, .int pl, .int ov, .int tk, .ref h9])), (h1, .inl (cC, 6, .inl na)), (h2, .inl (cI, 2, .inl cu)), (h3, .inl (cI, 48, .inl (upd pa x1.toNatClampNeg (pa (24 + x1).toNatClampNeg)))), (h4, .inl (cI, 48, .inl (upd re x1.toNatClampNeg (re (24 + x1).toNatClampNeg)))), (h5, .inl (cZ, 48, .inl (upd cl x1.toNatClampNeg (vp_nar .boolean (cl (24 + x1).toNatClampNeg))))), (h6, .inl (cI, 48, .inl (upd si x1.toNatClampNeg (si (24 + x1).toNatClampNeg)))), (h7, .inl (cC, 288, .inl lt)), (h8, .inl (cC, 3000, .inl pg)), (h9, .inl (cC, 6, .inl rd))] := hD
        refine lv_iinc (v := x1 + 1) (lv' := [(1, .int (x1 + 1)), (0, .ref h0)]) hx hb dd_M_adopt_80 hl (k := 1) rfl rfl (by decide) rfl (fun ls hl => ?_)
        refine lv_goto (tgt := 14) hx hb dd_M_adopt_83 (by decide) ?_
        exact ih14 cu (upd pa x1.toNatClampNeg (pa (24 + x1).toNatClampNeg)) (upd re x1.toNatClampNeg (re (24 + x1).toNatClampNeg)) (upd cl x1.toNatClampNeg (vp_nar .boolean (cl (24 + x1).toNatClampNeg))) (upd si x1.toNatClampNeg (si (24 + x1).toNatClampNeg)) lt (x1 + 1) hF H_47 locs_48 hP hD hS ls (lv_sub hl [1, 0] rfl)
  unfold fn_M_adopt at hF
  refine lv_aload_n hx hb dd_M_adopt_0 rfl (lv_at hl 0 rfl) ?_
  refine va_get (D := (dC, dI)) (ci := 6) (v := .ref h2) (C := cn_M) (T := tt_M) (N := 17) hx hb ht in_M hown hK hP 0 rfl rfl 2 (by decide) (ht _ tw_3_43) (fun _ h9 => h9) rfl dd_M_adopt_1 ?_
  refine lv_iconst (v := 0) hx hb dd_M_adopt_4 (by decide) ?_
  refine lv_aload_n hx hb dd_M_adopt_5 rfl (lv_at hl 0 rfl) ?_
  refine va_get (D := (dC, dI)) (ci := 6) (v := .ref h2) (C := cn_M) (T := tt_M) (N := 17) hx hb ht in_M hown hK hP 0 rfl rfl 2 (by decide) (ht _ tw_3_43) (fun _ h9 => h9) rfl dd_M_adopt_6 ?_
  refine lv_iconst (v := 1) hx hb dd_M_adopt_9 (by decide) ?_
  obtain ⟨g_49, hF⟩ := jv_gi hF
  refine va_iald hx hb hK hP 2 0 rfl rfl (jv_in g_49) dd_M_adopt_10 ?_
  obtain ⟨g_50, hF⟩ := jv_gi hF
  refine va_iast hx hb hK hP hD hS 2 0 rfl rfl (jv_in g_50) dd_M_adopt_11 (fun H_51 locs_52 hP hD hS => ?_)
  have hP : va_P (dC, dI) vwCl [(h0, .inr (6, [.int bg, .ref h1, .ref h2, .ref h3, .ref h4, .ref h5, .ref h6, .ref h7, .int ln, .ref h8, .int mt, .int en, .int sx, .int pl, .int ov, .int tk, .ref h9])), (h1, .inl (cC, 6, .inl na)), (h2, .inl (cI, 2, .inl (upd cu (0 : Int32).toNatClampNeg (cu (1 : Int32).toNatClampNeg)))), (h3, .inl (cI, 48, .inl pa)), (h4, .inl (cI, 48, .inl re)), (h5, .inl (cZ, 48, .inl cl)), (h6, .inl (cI, 48, .inl si)), (h7, .inl (cC, 288, .inl lt)), (h8, .inl (cC, 3000, .inl pg)), (h9, .inl (cC, 6, .inl rd))] H_51 := hP
  have hD : va_D A [(h0, .inr (6, [.int bg, .ref h1, .ref h2, .ref h3, .ref h4, .ref h5, .ref h6, .ref h7, .int ln, .ref h8, .int mt, .int en, .int sx, .int pl, .int ov, .int tk, .ref h9])), (h1, .inl (cC, 6, .inl na)), (h2, .inl (cI, 2, .inl (upd cu (0 : Int32).toNatClampNeg (cu (1 : Int32).toNatClampNeg)))), (h3, .inl (cI, 48, .inl pa)), (h4, .inl (cI, 48, .inl re)), (h5, .inl (cZ, 48, .inl cl)), (h6, .inl (cI, 48, .inl si)), (h7, .inl (cC, 288, .inl lt)), (h8, .inl (cC, 3000, .inl pg)), (h9, .inl (cC, 6, .inl rd))] := hD
  refine lv_iconst (v := 0) hx hb dd_M_adopt_12 (by decide) ?_
  refine lv_istore_n (lv' := [(1, .int 0), (0, .ref h0)]) hx hb dd_M_adopt_13 rfl hl (by decide) rfl (fun ls hl => ?_)
  exact lp14 4000 (upd cu (0 : Int32).toNatClampNeg (cu (1 : Int32).toNatClampNeg)) pa re cl si lt 0 hF H_51 locs_52 hP hD hS ls (lv_sub hl [1, 0] rfl)
set_option maxHeartbeats 40000000 in
set_option maxRecDepth 100000 in
theorem c_M_read (l : Launch) (dC : Nat → ClassId) (dI : Nat → Nat → Nat) (cI cL cC cZ : ClassId) (h0 h1 h2 h3 h4 h5 h6 h7 h8 h9 : Nat) (sz : Nat) (bg : Int32) (ln : Int32) (mt : Int32) (en : Int32) (sx : Int32) (pl : Int32) (ov : Int32) (tk : Int32) (na : Nat → Int32) (cu : Nat → Int32) (pa : Nat → Int32) (re : Nat → Int32) (cl : Nat → Int32) (si : Nat → Int32) (lt : Nat → Int32) (pg : Nat → Int32) (rd : Nat → Int32)  (out : Int32 × Int32 × Int32 × Int32 × Int32 × Int32 × Int32 × (Nat → Int32) × (Nat → Int32) × (Nat → Int32) × (Nat → Int32) × (Nat → Int32) × (Nat → Int32) × (Nat → Int32)) (hF : fn_M_read ln pg mt en sx pl ov tk cu pa re cl si lt rd = some out) : Met l yy_M_read ws_M_read { frames := 6, cells := 0, slots := 0, locals := 139 } (mP_ (dC, dI) (tk_ cI cL cC cZ) [(h0, .inr (6, [.int bg, .ref h1, .ref h2, .ref h3, .ref h4, .ref h5, .ref h6, .ref h7, .int ln, .ref h8, .int mt, .int en, .int sx, .int pl, .int ov, .int tk, .ref h9])), (h1, .inl (cC, 6, .inl na)), (h2, .inl (cI, 2, .inl cu)), (h3, .inl (cI, 48, .inl pa)), (h4, .inl (cI, 48, .inl re)), (h5, .inl (cZ, 48, .inl cl)), (h6, .inl (cI, 48, .inl si)), (h7, .inl (cC, 288, .inl lt)), (h8, .inl (cC, 3000, .inl pg)), (h9, .inl (cC, 6, .inl rd))] sz [.ref h0]) (va_Qi (fun r (_ : Unit) => r = out.1) (mB_ (dC, dI) (tk_ cI cL cC cZ) [(h0, .inr (6, [.int bg, .ref h1, .ref h2, .ref h3, .ref h4, .ref h5, .ref h6, .ref h7, .int ln, .ref h8, .int out.2.1, .int out.2.2.1, .int out.2.2.2.1, .int out.2.2.2.2.1, .int out.2.2.2.2.2.1, .int out.2.2.2.2.2.2.1, .ref h9])), (h1, .inl (cC, 6, .inl na)), (h2, .inl (cI, 2, .inl out.2.2.2.2.2.2.2.1)), (h3, .inl (cI, 48, .inl out.2.2.2.2.2.2.2.2.1)), (h4, .inl (cI, 48, .inl out.2.2.2.2.2.2.2.2.2.1)), (h5, .inl (cZ, 48, .inl out.2.2.2.2.2.2.2.2.2.2.1)), (h6, .inl (cI, 48, .inl out.2.2.2.2.2.2.2.2.2.2.2.1)), (h7, .inl (cC, 288, .inl out.2.2.2.2.2.2.2.2.2.2.2.2.1)), (h8, .inl (cC, 3000, .inl pg)), (h9, .inl (cC, 6, .inl out.2.2.2.2.2.2.2.2.2.2.2.2.2))] (va_A [(h0, .inr (6, [.int bg, .ref h1, .ref h2, .ref h3, .ref h4, .ref h5, .ref h6, .ref h7, .int ln, .ref h8, .int mt, .int en, .int sx, .int pl, .int ov, .int tk, .ref h9])), (h1, .inl (cC, 6, .inl na)), (h2, .inl (cI, 2, .inl cu)), (h3, .inl (cI, 48, .inl pa)), (h4, .inl (cI, 48, .inl re)), (h5, .inl (cZ, 48, .inl cl)), (h6, .inl (cI, 48, .inl si)), (h7, .inl (cC, 288, .inl lt)), (h8, .inl (cC, 3000, .inl pg)), (h9, .inl (cC, 6, .inl rd))] sz)) (va_A [(h0, .inr (6, [.int bg, .ref h1, .ref h2, .ref h3, .ref h4, .ref h5, .ref h6, .ref h7, .int ln, .ref h8, .int mt, .int en, .int sx, .int pl, .int ov, .int tk, .ref h9])), (h1, .inl (cC, 6, .inl na)), (h2, .inl (cI, 2, .inl cu)), (h3, .inl (cI, 48, .inl pa)), (h4, .inl (cI, 48, .inl re)), (h5, .inl (cZ, 48, .inl cl)), (h6, .inl (cI, 48, .inl si)), (h7, .inl (cC, 288, .inl lt)), (h8, .inl (cC, 3000, .inl pg)), (h9, .inl (cC, 6, .inl rd))] sz)) 0 0 (va_A [(h0, .inr (6, [.int bg, .ref h1, .ref h2, .ref h3, .ref h4, .ref h5, .ref h6, .ref h7, .int ln, .ref h8, .int mt, .int en, .int sx, .int pl, .int ov, .int tk, .ref h9])), (h1, .inl (cC, 6, .inl na)), (h2, .inl (cI, 2, .inl cu)), (h3, .inl (cI, 48, .inl pa)), (h4, .inl (cI, 48, .inl re)), (h5, .inl (cZ, 48, .inl cl)), (h6, .inl (cI, 48, .inl si)), (h7, .inl (cC, 288, .inl lt)), (h8, .inl (cC, 3000, .inl pg)), (h9, .inl (cC, 6, .inl rd))] sz) := by
  refine Met.ofW (cc := cc_M_read) (maxL := 4) (ret := (some .int)) (by decide) rfl ?_
  intro p e s m args below meth c s₁ B hml hv
  obtain ⟨hargs, hsz, hP, hK, hD0⟩ := hv
  have hx := B.exec
  have hb := B.bytes
  have hr := B.returns
  have hts := atoms_spec (ws := ws_M_read) B.pre
  have ht : ∀ w ∈ TB_, w.before args s = true := fun w h => hts w (List.mem_cons_of_mem _ h)
  have hown : s.vm.findClass cn_M = some m.cls := findClass_of_methodNamed B.named
  have hlocks := B.notSynchronized
  subst hsz
  have hD := hD0.self (sz := s.heap.size)
  generalize hAe : va_A [(h0, .inr (6, [.int bg, .ref h1, .ref h2, .ref h3, .ref h4, .ref h5, .ref h6, .ref h7, .int ln, .ref h8, .int mt, .int en, .int sx, .int pl, .int ov, .int tk, .ref h9])), (h1, .inl (cC, 6, .inl na)), (h2, .inl (cI, 2, .inl cu)), (h3, .inl (cI, 48, .inl pa)), (h4, .inl (cI, 48, .inl re)), (h5, .inl (cZ, 48, .inl cl)), (h6, .inl (cI, 48, .inl si)), (h7, .inl (cC, 288, .inl lt)), (h8, .inl (cC, 3000, .inl pg)), (h9, .inl (cC, 6, .inl rd))] s.heap.size = A at hD ⊢
  have hA : ∀ q : Nat, s.heap.size ≤ q → A q := fun q h => by rw [← hAe]; exact Or.inr h
  have hS : va_S A s.heap s.heap [] := va_S.rf
  have hP : va_P (dC, dI) vwCl [(h0, .inr (6, [.int bg, .ref h1, .ref h2, .ref h3, .ref h4, .ref h5, .ref h6, .ref h7, .int ln, .ref h8, .int mt, .int en, .int sx, .int pl, .int ov, .int tk, .ref h9])), (h1, .inl (cC, 6, .inl na)), (h2, .inl (cI, 2, .inl cu)), (h3, .inl (cI, 48, .inl pa)), (h4, .inl (cI, 48, .inl re)), (h5, .inl (cZ, 48, .inl cl)), (h6, .inl (cI, 48, .inl si)), (h7, .inl (cC, 288, .inl lt)), (h8, .inl (cC, 3000, .inl pg)), (h9, .inl (cC, 6, .inl rd))] s.heap := hP
  have hl := lv_entry [.ref h0] (n := 4) (Nat.le_of_ble_eq_true rfl)
  have he : entryFrame m args 4 = _ := (congrArg (fun a => entryFrame m a 4) hargs).trans (lg_entry_eq m [.ref h0] 4)
  rw [he]
  generalize (lg_sl [.ref h0] ++ List.replicate (4 - (lg_sl [.ref h0]).length) Slot.unset).toArray = ls at hl ⊢
  have hl : lv_has ls 4 [(0, .ref h0)] := hl
  generalize hQ : MQ below _ args s _ _ _ = Q
  have bl157 : ∀ (mt : Int32) (en : Int32) (sx : Int32) (pl : Int32) (ov : Int32) (tk : Int32) (cu : Nat → Int32) (pa : Nat → Int32) (re : Nat → Int32) (cl : Nat → Int32) (si : Nat → Int32) (lt : Nat → Int32) (rd : Nat → Int32) (x2 : Int32) (x3 : Int32), fb_M_read_157 ln pg  mt en sx pl ov tk cu pa re cl si lt rd x2 x3 = some out → ∀ (H : Heap) (locs : List Loc), va_P (dC, dI) vwCl [(h0, .inr (6, [.int bg, .ref h1, .ref h2, .ref h3, .ref h4, .ref h5, .ref h6, .ref h7, .int ln, .ref h8, .int mt, .int en, .int sx, .int pl, .int ov, .int tk, .ref h9])), (h1, .inl (cC, 6, .inl na)), (h2, .inl (cI, 2, .inl cu)), (h3, .inl (cI, 48, .inl pa)), (h4, .inl (cI, 48, .inl re)), (h5, .inl (cZ, 48, .inl cl)), (h6, .inl (cI, 48, .inl si)), (h7, .inl (cC, 288, .inl lt)), (h8, .inl (cC, 3000, .inl pg)), (h9, .inl (cC, 6, .inl rd))] H → va_D A [(h0, .inr (6, [.int bg, .ref h1, .ref h2, .ref h3, .ref h4, .ref h5, .ref h6, .ref h7, .int ln, .ref h8, .int mt, .int en, .int sx, .int pl, .int ov, .int tk, .ref h9])), (h1, .inl (cC, 6, .inl na)), (h2, .inl (cI, 2, .inl cu)), (h3, .inl (cI, 48, .inl pa)), (h4, .inl (cI, 48, .inl re)), (h5, .inl (cZ, 48, .inl cl)), (h6, .inl (cI, 48, .inl si)), (h7, .inl (cC, 288, .inl lt)), (h8, .inl (cC, 3000, .inl pg)), (h9, .inl (cC, 6, .inl rd))] → va_S A s.heap H locs → ∀ ls : Array Slot, lv_has ls 4 [(0, .ref h0), (2, .int x2), (3, .int x3)] → W p l e (headSpec ws_M_read { frames := 6, cells := 0, slots := 0, locals := 139 }).room s m args below meth c H locs 0 0 Q (F0 m 157 ls []) := by
    intro mt en sx pl ov tk cu pa re cl si lt rd x2 x3 hF H locs hP hD hS ls hl
    unfold fb_M_read_157 at hF
    refine lv_iload_n hx hb dd_M_read_157 rfl (lv_at hl 2 rfl) ?_
    refine lv_if_eq (tgt := 168) hx hb dd_M_read_158 (by decide) (fun c_35 => ?_) (fun c_35 => ?_)
    · have hF := jv_t c_35 hF
      refine lv_iload_n hx hb dd_M_read_168 rfl (lv_at hl 1 rfl) ?_
      refine lv_ineg hx hb dd_M_read_169 ?_
      subst hQ
      obtain rfl := Option.some.inj hF
      exact W.iret (v := -x2) hx hb hr (fun t ht hW => ⟨⟨-x2, (), rfl, rfl, by rw [ht]; exact hP, va_K.moved hW.alike hK, hD⟩, hS.F ht⟩) hS.2.2 dd_M_read_170
    · have hF := jv_f c_35 hF
      refine lv_aload_n hx hb dd_M_read_161 rfl (lv_at hl 0 rfl) ?_
      refine va_get (D := (dC, dI)) (ci := 6) (v := .int ov) (C := cn_M) (T := tt_M) (N := 17) hx hb ht in_M hown hK hP 0 rfl rfl 14 (by decide) (ht _ tw_3_55) (fun _ h9 => h9) rfl dd_M_read_162 ?_
      refine lv_if_ne (tgt := 171) hx hb dd_M_read_165 (by decide) (fun c_36 => ?_) (fun c_36 => ?_)
      · have hF := jv_f c_36 hF
        refine lv_aload_n hx hb dd_M_read_171 rfl (lv_at hl 0 rfl) ?_
        obtain ⟨o_172, ho_172, hF⟩ := jv_bi hF
        refine jv_mv (wr := []) (w1 := [(h0, .inr (6, [.int bg, .ref h1, .ref h2, .ref h3, .ref h4, .ref h5, .ref h6, .ref h7, .int ln, .ref h8, .int mt, .int en, .int sx, .int pl, .int ov, .int tk, .ref h9])), (h1, .inl (cC, 6, .inl na)), (h2, .inl (cI, 2, .inl o_172.1)), (h3, .inl (cI, 48, .inl o_172.2.1)), (h4, .inl (cI, 48, .inl o_172.2.2.1)), (h5, .inl (cZ, 48, .inl o_172.2.2.2.1)), (h6, .inl (cI, 48, .inl o_172.2.2.2.2.1)), (h7, .inl (cC, 288, .inl o_172.2.2.2.2.2)), (h8, .inl (cC, 3000, .inl pg)), (h9, .inl (cC, 6, .inl rd))]) (va_runV (C := cn_M) (As := []) (rest := []) ⟨hx, hb, hml, hown, ht⟩ (c_M_adopt l dC dI cI cL cC cZ h0 h1 h2 h3 h4 h5 h6 h7 h8 h9 H.size bg ln mt en sx pl ov tk na cu pa re cl si lt pg rd _ ho_172) (cwV 0 ht (gi_V tw_4_33 tw_4_35 tw_p_43 tw_1_4 tw_4_36) rfl rfl rfl (by decide +kernel) ⟨Nat.le_of_ble_eq_true rfl, Nat.le_of_ble_eq_true rfl⟩) (jv_pv hK hP hD [0, 1, 2, 3, 4, 5, 6, 7, 8, 9] rfl (by decide) rfl (va_recv hK hP (ci := 6) (q0 := 0) rfl rfl)) rfl rfl hl.1 rfl (lv_room (Nat.le_of_ble_eq_true rfl)) dd_M_read_172 ⟨Nat.le_of_ble_eq_true rfl, Nat.le_of_ble_eq_true rfl⟩) hP hD hS hA [0, 1, 2, 3, 4, 5, 6, 7, 8, 9] [] rfl rfl (by decide) (by decide) (fun H_37 locs_38 hP hD hS => ?_)
        have hP : va_P (dC, dI) vwCl [(h0, .inr (6, [.int bg, .ref h1, .ref h2, .ref h3, .ref h4, .ref h5, .ref h6, .ref h7, .int ln, .ref h8, .int mt, .int en, .int sx, .int pl, .int ov, .int tk, .ref h9])), (h1, .inl (cC, 6, .inl na)), (h2, .inl (cI, 2, .inl o_172.1)), (h3, .inl (cI, 48, .inl o_172.2.1)), (h4, .inl (cI, 48, .inl o_172.2.2.1)), (h5, .inl (cZ, 48, .inl o_172.2.2.2.1)), (h6, .inl (cI, 48, .inl o_172.2.2.2.2.1)), (h7, .inl (cC, 288, .inl o_172.2.2.2.2.2)), (h8, .inl (cC, 3000, .inl pg)), (h9, .inl (cC, 6, .inl rd))] H_37 := hP.sub [0, 1, 2, 3, 4, 5, 6, 7, 8, 9] rfl
        have hD : va_D A [(h0, .inr (6, [.int bg, .ref h1, .ref h2, .ref h3, .ref h4, .ref h5, .ref h6, .ref h7, .int ln, .ref h8, .int mt, .int en, .int sx, .int pl, .int ov, .int tk, .ref h9])), (h1, .inl (cC, 6, .inl na)), (h2, .inl (cI, 2, .inl o_172.1)), (h3, .inl (cI, 48, .inl o_172.2.1)), (h4, .inl (cI, 48, .inl o_172.2.2.1)), (h5, .inl (cZ, 48, .inl o_172.2.2.2.1)), (h6, .inl (cI, 48, .inl o_172.2.2.2.2.1)), (h7, .inl (cC, 288, .inl o_172.2.2.2.2.2)), (h8, .inl (cC, 3000, .inl pg)), (h9, .inl (cC, 6, .inl rd))] := hD.sub [0, 1, 2, 3, 4, 5, 6, 7, 8, 9] (by decide) rfl
        refine lv_iconst (v := 0) hx hb dd_M_read_175 (by decide) ?_
        subst hQ
        obtain rfl := Option.some.inj hF
        exact W.iret (v := 0) hx hb hr (fun t ht hW => ⟨⟨0, (), rfl, rfl, by rw [ht]; exact hP, va_K.moved hW.alike hK, hD⟩, hS.F ht⟩) hS.2.2 dd_M_read_176
      · have hF := jv_t c_36 hF
        refine lv_iload_n hx hb dd_M_read_168 rfl (lv_at hl 1 rfl) ?_
        refine lv_ineg hx hb dd_M_read_169 ?_
        subst hQ
        obtain rfl := Option.some.inj hF
        exact W.iret (v := -x2) hx hb hr (fun t ht hW => ⟨⟨-x2, (), rfl, rfl, by rw [ht]; exact hP, va_K.moved hW.alike hK, hD⟩, hS.F ht⟩) hS.2.2 dd_M_read_170
  have lp28 : ∀ (n28 : Nat), ∀ (mt : Int32) (en : Int32) (sx : Int32) (pl : Int32) (ov : Int32) (tk : Int32) (cu : Nat → Int32) (pa : Nat → Int32) (re : Nat → Int32) (cl : Nat → Int32) (si : Nat → Int32) (lt : Nat → Int32) (rd : Nat → Int32) (x1 : Int32) (x2 : Int32) (x3 : Int32), fl_M_read_28 ln pg  n28 (mt, en, sx, pl, ov, tk, cu, pa, re, cl, si, lt, rd, x1, x2, x3) = some out → ∀ (H : Heap) (locs : List Loc), va_P (dC, dI) vwCl [(h0, .inr (6, [.int bg, .ref h1, .ref h2, .ref h3, .ref h4, .ref h5, .ref h6, .ref h7, .int ln, .ref h8, .int mt, .int en, .int sx, .int pl, .int ov, .int tk, .ref h9])), (h1, .inl (cC, 6, .inl na)), (h2, .inl (cI, 2, .inl cu)), (h3, .inl (cI, 48, .inl pa)), (h4, .inl (cI, 48, .inl re)), (h5, .inl (cZ, 48, .inl cl)), (h6, .inl (cI, 48, .inl si)), (h7, .inl (cC, 288, .inl lt)), (h8, .inl (cC, 3000, .inl pg)), (h9, .inl (cC, 6, .inl rd))] H → va_D A [(h0, .inr (6, [.int bg, .ref h1, .ref h2, .ref h3, .ref h4, .ref h5, .ref h6, .ref h7, .int ln, .ref h8, .int mt, .int en, .int sx, .int pl, .int ov, .int tk, .ref h9])), (h1, .inl (cC, 6, .inl na)), (h2, .inl (cI, 2, .inl cu)), (h3, .inl (cI, 48, .inl pa)), (h4, .inl (cI, 48, .inl re)), (h5, .inl (cZ, 48, .inl cl)), (h6, .inl (cI, 48, .inl si)), (h7, .inl (cC, 288, .inl lt)), (h8, .inl (cC, 3000, .inl pg)), (h9, .inl (cC, 6, .inl rd))] → va_S A s.heap H locs → ∀ ls : Array Slot, lv_has ls 4 [(0, .ref h0), (1, .int x1), (2, .int x2), (3, .int x3)] → W p l e (headSpec ws_M_read { frames := 6, cells := 0, slots := 0, locals := 139 }).room s m args below meth c H locs 0 0 Q (F0 m 28 ls []) := by
    intro n28
    induction n28 with
    | zero =>
      intro mt en sx pl ov tk cu pa re cl si lt rd x1 x2 x3 hF
      exact (jv_no hF).elim
    | succ n28 ih28 =>
      have bl139 : ∀ (mt : Int32) (en : Int32) (sx : Int32) (pl : Int32) (ov : Int32) (tk : Int32) (cu : Nat → Int32) (pa : Nat → Int32) (re : Nat → Int32) (cl : Nat → Int32) (si : Nat → Int32) (lt : Nat → Int32) (rd : Nat → Int32) (x1 : Int32) (x2 : Int32) (y0 : Int32), fb_M_read_139 ln pg (fl_M_read_28 ln pg  n28) mt en sx pl ov tk cu pa re cl si lt rd x1 x2 y0 = some out → ∀ (H : Heap) (locs : List Loc), va_P (dC, dI) vwCl [(h0, .inr (6, [.int bg, .ref h1, .ref h2, .ref h3, .ref h4, .ref h5, .ref h6, .ref h7, .int ln, .ref h8, .int mt, .int en, .int sx, .int pl, .int ov, .int tk, .ref h9])), (h1, .inl (cC, 6, .inl na)), (h2, .inl (cI, 2, .inl cu)), (h3, .inl (cI, 48, .inl pa)), (h4, .inl (cI, 48, .inl re)), (h5, .inl (cZ, 48, .inl cl)), (h6, .inl (cI, 48, .inl si)), (h7, .inl (cC, 288, .inl lt)), (h8, .inl (cC, 3000, .inl pg)), (h9, .inl (cC, 6, .inl rd))] H → va_D A [(h0, .inr (6, [.int bg, .ref h1, .ref h2, .ref h3, .ref h4, .ref h5, .ref h6, .ref h7, .int ln, .ref h8, .int mt, .int en, .int sx, .int pl, .int ov, .int tk, .ref h9])), (h1, .inl (cC, 6, .inl na)), (h2, .inl (cI, 2, .inl cu)), (h3, .inl (cI, 48, .inl pa)), (h4, .inl (cI, 48, .inl re)), (h5, .inl (cZ, 48, .inl cl)), (h6, .inl (cI, 48, .inl si)), (h7, .inl (cC, 288, .inl lt)), (h8, .inl (cC, 3000, .inl pg)), (h9, .inl (cC, 6, .inl rd))] → va_S A s.heap H locs → ∀ ls : Array Slot, lv_has ls 4 [(0, .ref h0), (1, .int x1), (2, .int x2)] → W p l e (headSpec ws_M_read { frames := 6, cells := 0, slots := 0, locals := 139 }).room s m args below meth c H locs 0 0 Q (F0 m 139 ls [.int y0]) := by
        intro mt en sx pl ov tk cu pa re cl si lt rd x1 x2 y0 hF H locs hP hD hS ls hl
        unfold fb_M_read_139 at hF
        refine lv_istore_n (lv' := [(3, .int y0), (0, .ref h0), (1, .int x1), (2, .int x2)]) hx hb dd_M_read_139 rfl hl (by decide) rfl (fun ls hl => ?_)
        refine lv_iload_n hx hb dd_M_read_140 rfl (lv_at hl 0 rfl) ?_
        refine lv_if_eq (tgt := 28) hx hb dd_M_read_141 (by decide) (fun c_39 => ?_) (fun c_39 => ?_)
        · have hF := jv_t c_39 hF
          exact ih28 mt en sx pl ov tk cu pa re cl si lt rd x1 x2 y0 hF H locs hP hD hS ls (lv_sub hl [1, 2, 3, 0] rfl)
        · have hF := jv_f c_39 hF
          refine lv_aload_n hx hb dd_M_read_144 rfl (lv_at hl 1 rfl) ?_
          refine va_get (D := (dC, dI)) (ci := 6) (v := .int en) (C := cn_M) (T := tt_M) (N := 17) hx hb ht in_M hown hK hP 0 rfl rfl 11 (by decide) (ht _ tw_3_52) (fun _ h9 => h9) rfl dd_M_read_145 ?_
          refine lv_iconst (v := 1) hx hb dd_M_read_148 (by decide) ?_
          refine lv_iadd hx hb dd_M_read_149 ?_
          refine lv_istore_n (lv' := [(1, .int (en + 1)), (3, .int y0), (0, .ref h0), (2, .int x2)]) hx hb dd_M_read_150 rfl hl (by decide) rfl (fun ls hl => ?_)
          refine lv_iinc (v := x2 + 1) (lv' := [(2, .int (x2 + 1)), (1, .int (en + 1)), (3, .int y0), (0, .ref h0)]) hx hb dd_M_read_151 hl (k := 3) rfl rfl (by decide) rfl (fun ls hl => ?_)
          refine lv_goto (tgt := 28) hx hb dd_M_read_154 (by decide) ?_
          exact ih28 mt en sx pl ov tk cu pa re cl si lt rd (en + 1) (x2 + 1) y0 hF H locs hP hD hS ls (lv_sub hl [3, 1, 0, 2] rfl)
      have bl83 : ∀ (mt : Int32) (en : Int32) (sx : Int32) (pl : Int32) (ov : Int32) (tk : Int32) (cu : Nat → Int32) (pa : Nat → Int32) (re : Nat → Int32) (cl : Nat → Int32) (si : Nat → Int32) (lt : Nat → Int32) (rd : Nat → Int32) (x1 : Int32) (x2 : Int32), fb_M_read_83 ln pg (fl_M_read_28 ln pg  n28) mt en sx pl ov tk cu pa re cl si lt rd x1 x2 = some out → ∀ (H : Heap) (locs : List Loc), va_P (dC, dI) vwCl [(h0, .inr (6, [.int bg, .ref h1, .ref h2, .ref h3, .ref h4, .ref h5, .ref h6, .ref h7, .int ln, .ref h8, .int mt, .int en, .int sx, .int pl, .int ov, .int tk, .ref h9])), (h1, .inl (cC, 6, .inl na)), (h2, .inl (cI, 2, .inl cu)), (h3, .inl (cI, 48, .inl pa)), (h4, .inl (cI, 48, .inl re)), (h5, .inl (cZ, 48, .inl cl)), (h6, .inl (cI, 48, .inl si)), (h7, .inl (cC, 288, .inl lt)), (h8, .inl (cC, 3000, .inl pg)), (h9, .inl (cC, 6, .inl rd))] H → va_D A [(h0, .inr (6, [.int bg, .ref h1, .ref h2, .ref h3, .ref h4, .ref h5, .ref h6, .ref h7, .int ln, .ref h8, .int mt, .int en, .int sx, .int pl, .int ov, .int tk, .ref h9])), (h1, .inl (cC, 6, .inl na)), (h2, .inl (cI, 2, .inl cu)), (h3, .inl (cI, 48, .inl pa)), (h4, .inl (cI, 48, .inl re)), (h5, .inl (cZ, 48, .inl cl)), (h6, .inl (cI, 48, .inl si)), (h7, .inl (cC, 288, .inl lt)), (h8, .inl (cC, 3000, .inl pg)), (h9, .inl (cC, 6, .inl rd))] → va_S A s.heap H locs → ∀ ls : Array Slot, lv_has ls 4 [(0, .ref h0), (1, .int x1), (2, .int x2)] → W p l e (headSpec ws_M_read { frames := 6, cells := 0, slots := 0, locals := 139 }).room s m args below meth c H locs 0 0 Q (F0 m 83 ls []) := by
        intro mt en sx pl ov tk cu pa re cl si lt rd x1 x2 hF H locs hP hD hS ls hl
        unfold fb_M_read_83 at hF
        refine lv_aload_n hx hb dd_M_read_83 rfl (lv_at hl 0 rfl) ?_
        refine lv_iload_n hx hb dd_M_read_84 rfl (lv_at hl 1 rfl) ?_
        refine va_put (D := (dC, dI)) (ci := 6) (v := .int x1) (ty := .int) (C := cn_M) (T := tt_M) (N := 17) hx hb ht in_M ty_M tyok_M nm_M hown hK hP hD hS 0 rfl rfl 10 (by decide) (ht _ tw_3_51) (fun _ h9 => h9) rfl (by decide +kernel) rfl rfl (Nat.le_of_ble_eq_true rfl) dd_M_read_85 (fun H_40 locs_41 hP hD hS => ?_)
        have hP : va_P (dC, dI) vwCl [(h0, .inr (6, [.int bg, .ref h1, .ref h2, .ref h3, .ref h4, .ref h5, .ref h6, .ref h7, .int ln, .ref h8, .int x1, .int en, .int sx, .int pl, .int ov, .int tk, .ref h9])), (h1, .inl (cC, 6, .inl na)), (h2, .inl (cI, 2, .inl cu)), (h3, .inl (cI, 48, .inl pa)), (h4, .inl (cI, 48, .inl re)), (h5, .inl (cZ, 48, .inl cl)), (h6, .inl (cI, 48, .inl si)), (h7, .inl (cC, 288, .inl lt)), (h8, .inl (cC, 3000, .inl pg)), (h9, .inl (cC, 6, .inl rd))] H_40 := hP
        have hD : va_D A [(h0, .inr (6, [.int bg, .ref h1, .ref h2, .ref h3, .ref h4, .ref h5, .ref h6, .ref h7, .int ln, .ref h8, .int x1, .int en, .int sx, .int pl, .int ov, .int tk, .ref h9])), (h1, .inl (cC, 6, .inl na)), (h2, .inl (cI, 2, .inl cu)), (h3, .inl (cI, 48, .inl pa)), (h4, .inl (cI, 48, .inl re)), (h5, .inl (cZ, 48, .inl cl)), (h6, .inl (cI, 48, .inl si)), (h7, .inl (cC, 288, .inl lt)), (h8, .inl (cC, 3000, .inl pg)), (h9, .inl (cC, 6, .inl rd))] := hD
        refine lv_aload_n hx hb dd_M_read_88 rfl (lv_at hl 0 rfl) ?_
        refine va_get (D := (dC, dI)) (ci := 6) (v := .int en) (C := cn_M) (T := tt_M) (N := 17) hx hb ht in_M hown hK hP 0 rfl rfl 11 (by decide) (ht _ tw_3_52) (fun _ h9 => h9) rfl dd_M_read_89 ?_
        refine lv_aload_n hx hb dd_M_read_92 rfl (lv_at hl 0 rfl) ?_
        refine va_get (D := (dC, dI)) (ci := 6) (v := .int ln) (C := cn_M) (T := tt_M) (N := 17) hx hb ht in_M hown hK hP 0 rfl rfl 8 (by decide) (ht _ tw_3_49) (fun _ h9 => h9) rfl dd_M_read_93 ?_
        refine lv_icmp_ge (tgt := 138) hx hb dd_M_read_96 (by decide) (fun c_42 => ?_) (fun c_42 => ?_)
        · have hF := jv_t c_42 hF
          refine lv_iconst (v := 0) hx hb dd_M_read_138 (by decide) ?_
          exact bl139 x1 en sx pl ov tk cu pa re cl si lt rd x1 x2 0 hF H_40 locs_41 hP hD hS ls (lv_sub hl [0, 1, 2] rfl)
        · have hF := jv_f c_42 hF
          refine lv_iload_n hx hb dd_M_read_99 rfl (lv_at hl 2 rfl) ?_
          refine lv_iconst (v := 1) hx hb dd_M_read_100 (by decide) ?_
          refine lv_icmp_ne (tgt := 126) hx hb dd_M_read_101 (by decide) (fun c_43 => ?_) (fun c_43 => ?_)
          · have hF := jv_f c_43 hF
            refine lv_aload_n hx hb dd_M_read_126 rfl (lv_at hl 0 rfl) ?_
            refine lv_iload_n hx hb dd_M_read_127 rfl (lv_at hl 1 rfl) ?_
            obtain ⟨o_128, ho_128, hF⟩ := jv_bi hF
            refine jv_mi (wr := []) (w1 := [(h0, .inr (6, [.int bg, .ref h1, .ref h2, .ref h3, .ref h4, .ref h5, .ref h6, .ref h7, .int ln, .ref h8, .int o_128.2.1, .int en, .int o_128.2.2.1, .int o_128.2.2.2.1, .int o_128.2.2.2.2.1, .int o_128.2.2.2.2.2.1, .ref h9])), (h1, .inl (cC, 6, .inl na)), (h2, .inl (cI, 2, .inl o_128.2.2.2.2.2.2.1)), (h3, .inl (cI, 48, .inl o_128.2.2.2.2.2.2.2.1)), (h4, .inl (cI, 48, .inl o_128.2.2.2.2.2.2.2.2.1)), (h5, .inl (cZ, 48, .inl o_128.2.2.2.2.2.2.2.2.2.1)), (h6, .inl (cI, 48, .inl o_128.2.2.2.2.2.2.2.2.2.2.1)), (h7, .inl (cC, 288, .inl o_128.2.2.2.2.2.2.2.2.2.2.2.1)), (h8, .inl (cC, 3000, .inl pg)), (h9, .inl (cC, 6, .inl o_128.2.2.2.2.2.2.2.2.2.2.2.2))]) (va_runV (C := cn_M) (As := [.int x1]) (rest := []) ⟨hx, hb, hml, hown, ht⟩ (c_M_line l dC dI cI cL cC cZ h0 h1 h2 h3 h4 h5 h6 h7 h8 h9 H_40.size bg ln x1 en sx pl ov tk na cu pa re cl si lt pg rd x1 _ ho_128) (cwV 1 ht (gi_V tw_3_221 tw_3_223 tw_p_30 tw_1_4 tw_3_224) rfl rfl rfl (by decide +kernel) ⟨Nat.le_of_ble_eq_true rfl, Nat.le_of_ble_eq_true rfl⟩) (jv_pv hK hP hD [0, 1, 2, 3, 4, 5, 6, 7, 8, 9] rfl (by decide) rfl (va_recv hK hP (ci := 6) (q0 := 0) rfl rfl)) rfl rfl hl.1 rfl (lv_room (Nat.le_of_ble_eq_true rfl)) dd_M_read_128 ⟨Nat.le_of_ble_eq_true rfl, Nat.le_of_ble_eq_true rfl⟩) hP hD hS hA [0, 1, 2, 3, 4, 5, 6, 7, 8, 9] [] rfl rfl (by decide) (by decide) (fun H_44 locs_45 hP hD hS => ?_)
            have hP : va_P (dC, dI) vwCl [(h0, .inr (6, [.int bg, .ref h1, .ref h2, .ref h3, .ref h4, .ref h5, .ref h6, .ref h7, .int ln, .ref h8, .int o_128.2.1, .int en, .int o_128.2.2.1, .int o_128.2.2.2.1, .int o_128.2.2.2.2.1, .int o_128.2.2.2.2.2.1, .ref h9])), (h1, .inl (cC, 6, .inl na)), (h2, .inl (cI, 2, .inl o_128.2.2.2.2.2.2.1)), (h3, .inl (cI, 48, .inl o_128.2.2.2.2.2.2.2.1)), (h4, .inl (cI, 48, .inl o_128.2.2.2.2.2.2.2.2.1)), (h5, .inl (cZ, 48, .inl o_128.2.2.2.2.2.2.2.2.2.1)), (h6, .inl (cI, 48, .inl o_128.2.2.2.2.2.2.2.2.2.2.1)), (h7, .inl (cC, 288, .inl o_128.2.2.2.2.2.2.2.2.2.2.2.1)), (h8, .inl (cC, 3000, .inl pg)), (h9, .inl (cC, 6, .inl o_128.2.2.2.2.2.2.2.2.2.2.2.2))] H_44 := hP.sub [0, 1, 2, 3, 4, 5, 6, 7, 8, 9] rfl
            have hD : va_D A [(h0, .inr (6, [.int bg, .ref h1, .ref h2, .ref h3, .ref h4, .ref h5, .ref h6, .ref h7, .int ln, .ref h8, .int o_128.2.1, .int en, .int o_128.2.2.1, .int o_128.2.2.2.1, .int o_128.2.2.2.2.1, .int o_128.2.2.2.2.2.1, .ref h9])), (h1, .inl (cC, 6, .inl na)), (h2, .inl (cI, 2, .inl o_128.2.2.2.2.2.2.1)), (h3, .inl (cI, 48, .inl o_128.2.2.2.2.2.2.2.1)), (h4, .inl (cI, 48, .inl o_128.2.2.2.2.2.2.2.2.1)), (h5, .inl (cZ, 48, .inl o_128.2.2.2.2.2.2.2.2.2.1)), (h6, .inl (cI, 48, .inl o_128.2.2.2.2.2.2.2.2.2.2.1)), (h7, .inl (cC, 288, .inl o_128.2.2.2.2.2.2.2.2.2.2.2.1)), (h8, .inl (cC, 3000, .inl pg)), (h9, .inl (cC, 6, .inl o_128.2.2.2.2.2.2.2.2.2.2.2.2))] := hD.sub [0, 1, 2, 3, 4, 5, 6, 7, 8, 9] (by decide) rfl
            refine lv_if_eq (tgt := 138) hx hb dd_M_read_131 (by decide) (fun c_46 => ?_) (fun c_46 => ?_)
            · have hF := jv_t c_46 hF
              refine lv_iconst (v := 0) hx hb dd_M_read_138 (by decide) ?_
              exact bl139 o_128.2.1 en o_128.2.2.1 o_128.2.2.2.1 o_128.2.2.2.2.1 o_128.2.2.2.2.2.1 o_128.2.2.2.2.2.2.1 o_128.2.2.2.2.2.2.2.1 o_128.2.2.2.2.2.2.2.2.1 o_128.2.2.2.2.2.2.2.2.2.1 o_128.2.2.2.2.2.2.2.2.2.2.1 o_128.2.2.2.2.2.2.2.2.2.2.2.1 o_128.2.2.2.2.2.2.2.2.2.2.2.2 x1 x2 0 hF H_44 locs_45 hP hD hS ls (lv_sub hl [0, 1, 2] rfl)
            · have hF := jv_f c_46 hF
              refine lv_iconst (v := 1) hx hb dd_M_read_134 (by decide) ?_
              refine lv_goto (tgt := 139) hx hb dd_M_read_135 (by decide) ?_
              exact bl139 o_128.2.1 en o_128.2.2.1 o_128.2.2.2.1 o_128.2.2.2.2.1 o_128.2.2.2.2.2.1 o_128.2.2.2.2.2.2.1 o_128.2.2.2.2.2.2.2.1 o_128.2.2.2.2.2.2.2.2.1 o_128.2.2.2.2.2.2.2.2.2.1 o_128.2.2.2.2.2.2.2.2.2.2.1 o_128.2.2.2.2.2.2.2.2.2.2.2.1 o_128.2.2.2.2.2.2.2.2.2.2.2.2 x1 x2 1 hF H_44 locs_45 hP hD hS ls (lv_sub hl [0, 1, 2] rfl)
          · have hF := jv_t c_43 hF
            refine lv_aload_n hx hb dd_M_read_104 rfl (lv_at hl 0 rfl) ?_
            refine lv_iconst (v := 0) hx hb dd_M_read_105 (by decide) ?_
            obtain ⟨o_106, ho_106, hF⟩ := jv_bi hF
            refine jv_mi (wr := []) (w1 := [(h0, .inr (6, [.int bg, .ref h1, .ref h2, .ref h3, .ref h4, .ref h5, .ref h6, .ref h7, .int ln, .ref h8, .int o_106.2, .int en, .int sx, .int pl, .int ov, .int tk, .ref h9])), (h1, .inl (cC, 6, .inl na)), (h2, .inl (cI, 2, .inl cu)), (h3, .inl (cI, 48, .inl pa)), (h4, .inl (cI, 48, .inl re)), (h5, .inl (cZ, 48, .inl cl)), (h6, .inl (cI, 48, .inl si)), (h7, .inl (cC, 288, .inl lt)), (h8, .inl (cC, 3000, .inl pg)), (h9, .inl (cC, 6, .inl rd))]) (va_runV (C := cn_M) (As := [.int 0]) (rest := []) ⟨hx, hb, hml, hown, ht⟩ (c_M_eat l dC dI cI cL cC cZ h0 h1 h2 h3 h4 h5 h6 h7 h8 h9 H_40.size bg ln x1 en sx pl ov tk na cu pa re cl si lt pg rd 0 _ ho_106) (cwV 1 ht (gi_V tw_3_217 tw_3_219 tw_p_29 tw_1_4 tw_3_220) rfl rfl rfl (by decide +kernel) ⟨Nat.le_of_ble_eq_true rfl, Nat.le_of_ble_eq_true rfl⟩) (jv_pv hK hP hD [0, 1, 2, 3, 4, 5, 6, 7, 8, 9] rfl (by decide) rfl (va_recv hK hP (ci := 6) (q0 := 0) rfl rfl)) rfl rfl hl.1 rfl (lv_room (Nat.le_of_ble_eq_true rfl)) dd_M_read_106 ⟨Nat.le_of_ble_eq_true rfl, Nat.le_of_ble_eq_true rfl⟩) hP hD hS hA [0, 1, 2, 3, 4, 5, 6, 7, 8, 9] [] rfl rfl (by decide) (by decide) (fun H_47 locs_48 hP hD hS => ?_)
            have hP : va_P (dC, dI) vwCl [(h0, .inr (6, [.int bg, .ref h1, .ref h2, .ref h3, .ref h4, .ref h5, .ref h6, .ref h7, .int ln, .ref h8, .int o_106.2, .int en, .int sx, .int pl, .int ov, .int tk, .ref h9])), (h1, .inl (cC, 6, .inl na)), (h2, .inl (cI, 2, .inl cu)), (h3, .inl (cI, 48, .inl pa)), (h4, .inl (cI, 48, .inl re)), (h5, .inl (cZ, 48, .inl cl)), (h6, .inl (cI, 48, .inl si)), (h7, .inl (cC, 288, .inl lt)), (h8, .inl (cC, 3000, .inl pg)), (h9, .inl (cC, 6, .inl rd))] H_47 := hP.sub [0, 1, 2, 3, 4, 5, 6, 7, 8, 9] rfl
            have hD : va_D A [(h0, .inr (6, [.int bg, .ref h1, .ref h2, .ref h3, .ref h4, .ref h5, .ref h6, .ref h7, .int ln, .ref h8, .int o_106.2, .int en, .int sx, .int pl, .int ov, .int tk, .ref h9])), (h1, .inl (cC, 6, .inl na)), (h2, .inl (cI, 2, .inl cu)), (h3, .inl (cI, 48, .inl pa)), (h4, .inl (cI, 48, .inl re)), (h5, .inl (cZ, 48, .inl cl)), (h6, .inl (cI, 48, .inl si)), (h7, .inl (cC, 288, .inl lt)), (h8, .inl (cC, 3000, .inl pg)), (h9, .inl (cC, 6, .inl rd))] := hD.sub [0, 1, 2, 3, 4, 5, 6, 7, 8, 9] (by decide) rfl
            refine lv_if_eq (tgt := 138) hx hb dd_M_read_109 (by decide) (fun c_49 => ?_) (fun c_49 => ?_)
            · have hF := jv_t c_49 hF
              refine lv_iconst (v := 0) hx hb dd_M_read_138 (by decide) ?_
              exact bl139 o_106.2 en sx pl ov tk cu pa re cl si lt rd x1 x2 0 hF H_47 locs_48 hP hD hS ls (lv_sub hl [0, 1, 2] rfl)
            · have hF := jv_f c_49 hF
              refine lv_aload_n hx hb dd_M_read_112 rfl (lv_at hl 0 rfl) ?_
              refine va_get (D := (dC, dI)) (ci := 6) (v := .int o_106.2) (C := cn_M) (T := tt_M) (N := 17) hx hb ht in_M hown hK hP 0 rfl rfl 10 (by decide) (ht _ tw_3_51) (fun _ h9 => h9) rfl dd_M_read_113 ?_
              refine lv_aload_n hx hb dd_M_read_116 rfl (lv_at hl 0 rfl) ?_
              refine va_get (D := (dC, dI)) (ci := 6) (v := .int en) (C := cn_M) (T := tt_M) (N := 17) hx hb ht in_M hown hK hP 0 rfl rfl 11 (by decide) (ht _ tw_3_52) (fun _ h9 => h9) rfl dd_M_read_117 ?_
              refine lv_icmp_ne (tgt := 138) hx hb dd_M_read_120 (by decide) (fun c_50 => ?_) (fun c_50 => ?_)
              · have hF := jv_f c_50 hF
                refine lv_iconst (v := 0) hx hb dd_M_read_138 (by decide) ?_
                exact bl139 o_106.2 en sx pl ov tk cu pa re cl si lt rd x1 x2 0 hF H_47 locs_48 hP hD hS ls (lv_sub hl [0, 1, 2] rfl)
              · have hF := jv_t c_50 hF
                refine lv_goto (tgt := 134) hx hb dd_M_read_123 (by decide) ?_
                refine lv_iconst (v := 1) hx hb dd_M_read_134 (by decide) ?_
                refine lv_goto (tgt := 139) hx hb dd_M_read_135 (by decide) ?_
                exact bl139 o_106.2 en sx pl ov tk cu pa re cl si lt rd x1 x2 1 hF H_47 locs_48 hP hD hS ls (lv_sub hl [0, 1, 2] rfl)
      have lp45 : ∀ (n45 : Nat), ∀ (mt : Int32) (en : Int32) (sx : Int32) (pl : Int32) (ov : Int32) (tk : Int32) (cu : Nat → Int32) (pa : Nat → Int32) (re : Nat → Int32) (cl : Nat → Int32) (si : Nat → Int32) (lt : Nat → Int32) (rd : Nat → Int32) (x1 : Int32) (x2 : Int32), fl_M_read_45 ln pg (fl_M_read_28 ln pg  n28) n45 (mt, en, sx, pl, ov, tk, cu, pa, re, cl, si, lt, rd, x1, x2) = some out → ∀ (H : Heap) (locs : List Loc), va_P (dC, dI) vwCl [(h0, .inr (6, [.int bg, .ref h1, .ref h2, .ref h3, .ref h4, .ref h5, .ref h6, .ref h7, .int ln, .ref h8, .int mt, .int en, .int sx, .int pl, .int ov, .int tk, .ref h9])), (h1, .inl (cC, 6, .inl na)), (h2, .inl (cI, 2, .inl cu)), (h3, .inl (cI, 48, .inl pa)), (h4, .inl (cI, 48, .inl re)), (h5, .inl (cZ, 48, .inl cl)), (h6, .inl (cI, 48, .inl si)), (h7, .inl (cC, 288, .inl lt)), (h8, .inl (cC, 3000, .inl pg)), (h9, .inl (cC, 6, .inl rd))] H → va_D A [(h0, .inr (6, [.int bg, .ref h1, .ref h2, .ref h3, .ref h4, .ref h5, .ref h6, .ref h7, .int ln, .ref h8, .int mt, .int en, .int sx, .int pl, .int ov, .int tk, .ref h9])), (h1, .inl (cC, 6, .inl na)), (h2, .inl (cI, 2, .inl cu)), (h3, .inl (cI, 48, .inl pa)), (h4, .inl (cI, 48, .inl re)), (h5, .inl (cZ, 48, .inl cl)), (h6, .inl (cI, 48, .inl si)), (h7, .inl (cC, 288, .inl lt)), (h8, .inl (cC, 3000, .inl pg)), (h9, .inl (cC, 6, .inl rd))] → va_S A s.heap H locs → ∀ ls : Array Slot, lv_has ls 4 [(0, .ref h0), (1, .int x1), (2, .int x2)] → W p l e (headSpec ws_M_read { frames := 6, cells := 0, slots := 0, locals := 139 }).room s m args below meth c H locs 0 0 Q (F0 m 45 ls []) := by
        intro n45
        induction n45 with
        | zero =>
          intro mt en sx pl ov tk cu pa re cl si lt rd x1 x2 hF
          exact (jv_no hF).elim
        | succ n45 ih45 =>
          intro mt en sx pl ov tk cu pa re cl si lt rd x1 x2 hF H locs hP hD hS ls hl
          have hF : fb_M_read_45 ln pg (fl_M_read_28 ln pg  n28) (fl_M_read_45 ln pg (fl_M_read_28 ln pg  n28) n45) mt en sx pl ov tk cu pa re cl si lt rd x1 x2 = some out := hF
          unfold fb_M_read_45 at hF
          refine lv_aload_n hx hb dd_M_read_45 rfl (lv_at hl 0 rfl) ?_
          refine va_get (D := (dC, dI)) (ci := 6) (v := .int en) (C := cn_M) (T := tt_M) (N := 17) hx hb ht in_M hown hK hP 0 rfl rfl 11 (by decide) (ht _ tw_3_52) (fun _ h9 => h9) rfl dd_M_read_46 ?_
          refine lv_aload_n hx hb dd_M_read_49 rfl (lv_at hl 0 rfl) ?_
          refine va_get (D := (dC, dI)) (ci := 6) (v := .int ln) (C := cn_M) (T := tt_M) (N := 17) hx hb ht in_M hown hK hP 0 rfl rfl 8 (by decide) (ht _ tw_3_49) (fun _ h9 => h9) rfl dd_M_read_50 ?_
          refine lv_icmp_ge (tgt := 83) hx hb dd_M_read_53 (by decide) (fun c_51 => ?_) (fun c_51 => ?_)
          · have hF := jv_t c_51 hF
            exact bl83 mt en sx pl ov tk cu pa re cl si lt rd x1 x2 hF H locs hP hD hS ls (lv_sub hl [0, 1, 2] rfl)
          · have hF := jv_f c_51 hF
            refine lv_aload_n hx hb dd_M_read_56 rfl (lv_at hl 0 rfl) ?_
            refine va_get (D := (dC, dI)) (ci := 6) (v := .ref h8) (C := cn_M) (T := tt_M) (N := 17) hx hb ht in_M hown hK hP 0 rfl rfl 9 (by decide) (ht _ tw_3_50) (fun _ h9 => h9) rfl dd_M_read_57 ?_
            refine lv_aload_n hx hb dd_M_read_60 rfl (lv_at hl 0 rfl) ?_
            refine va_get (D := (dC, dI)) (ci := 6) (v := .int en) (C := cn_M) (T := tt_M) (N := 17) hx hb ht in_M hown hK hP 0 rfl rfl 11 (by decide) (ht _ tw_3_52) (fun _ h9 => h9) rfl dd_M_read_61 ?_
            obtain ⟨g_52, hF⟩ := jv_gi hF
            refine va_cald hx hb hK hP 8 2 rfl rfl (jv_in g_52) dd_M_read_64 ?_
            refine lv_bipush (v := 10) hx hb dd_M_read_65 (by decide) ?_
            refine lv_icmp_eq (tgt := 83) hx hb dd_M_read_67 (by decide) (fun c_53 => ?_) (fun c_53 => ?_)
            · have hF := jv_t c_53 hF
              exact bl83 mt en sx pl ov tk cu pa re cl si lt rd x1 x2 hF H locs hP hD hS ls (lv_sub hl [0, 1, 2] rfl)
            · have hF := jv_f c_53 hF
              refine lv_aload_n hx hb dd_M_read_70 rfl (lv_at hl 0 rfl) ?_
              refine lv_dup hx hb dd_M_read_71 rfl ?_
              refine va_get (D := (dC, dI)) (ci := 6) (v := .int en) (C := cn_M) (T := tt_M) (N := 17) hx hb ht in_M hown hK hP 0 rfl rfl 11 (by decide) (ht _ tw_3_52) (fun _ h9 => h9) rfl dd_M_read_72 ?_
              refine lv_iconst (v := 1) hx hb dd_M_read_75 (by decide) ?_
              refine lv_iadd hx hb dd_M_read_76 ?_
              refine va_put (D := (dC, dI)) (ci := 6) (v := .int (en + 1)) (ty := .int) (C := cn_M) (T := tt_M) (N := 17) hx hb ht in_M ty_M tyok_M nm_M hown hK hP hD hS 0 rfl rfl 11 (by decide) (ht _ tw_3_52) (fun _ h9 => h9) rfl (by decide +kernel) rfl rfl (Nat.le_of_ble_eq_true rfl) dd_M_read_77 (fun H_54 locs_55 hP hD hS => ?_)
              have hP : va_P (dC, dI) vwCl [(h0, .inr (6, [.int bg, .ref h1, .ref h2, .ref h3, .ref h4, .ref h5, .ref h6, .ref h7, .int ln, .ref h8, .int mt, .int (en + 1), .int sx, .int pl, .int ov, .int tk, .ref h9])), (h1, .inl (cC, 6, .inl na)), (h2, .inl (cI, 2, .inl cu)), (h3, .inl (cI, 48, .inl pa)), (h4, .inl (cI, 48, .inl re)), (h5, .inl (cZ, 48, .inl cl)), (h6, .inl (cI, 48, .inl si)), (h7, .inl (cC, 288, .inl lt)), (h8, .inl (cC, 3000, .inl pg)), (h9, .inl (cC, 6, .inl rd))] H_54 := hP
              have hD : va_D A [(h0, .inr (6, [.int bg, .ref h1, .ref h2, .ref h3, .ref h4, .ref h5, .ref h6, .ref h7, .int ln, .ref h8, .int mt, .int (en + 1), .int sx, .int pl, .int ov, .int tk, .ref h9])), (h1, .inl (cC, 6, .inl na)), (h2, .inl (cI, 2, .inl cu)), (h3, .inl (cI, 48, .inl pa)), (h4, .inl (cI, 48, .inl re)), (h5, .inl (cZ, 48, .inl cl)), (h6, .inl (cI, 48, .inl si)), (h7, .inl (cC, 288, .inl lt)), (h8, .inl (cC, 3000, .inl pg)), (h9, .inl (cC, 6, .inl rd))] := hD
              refine lv_goto (tgt := 45) hx hb dd_M_read_80 (by decide) ?_
              exact ih45 mt (en + 1) sx pl ov tk cu pa re cl si lt rd x1 x2 hF H_54 locs_55 hP hD hS ls (lv_sub hl [0, 1, 2] rfl)
      intro mt en sx pl ov tk cu pa re cl si lt rd x1 x2 x3 hF H locs hP hD hS ls hl
      have hF : fb_M_read_28 ln pg  (fl_M_read_28 ln pg  n28) mt en sx pl ov tk cu pa re cl si lt rd x1 x2 x3 = some out := hF
      unfold fb_M_read_28 at hF
      refine lv_iload_n hx hb dd_M_read_28 rfl (lv_at hl 3 rfl) ?_
      refine lv_if_eq (tgt := 157) hx hb dd_M_read_29 (by decide) (fun c_56 => ?_) (fun c_56 => ?_)
      · have hF := jv_t c_56 hF
        exact bl157 mt en sx pl ov tk cu pa re cl si lt rd x2 x3 hF H locs hP hD hS ls (lv_sub hl [0, 2, 3] rfl)
      · have hF := jv_f c_56 hF
        refine lv_iload_n hx hb dd_M_read_32 rfl (lv_at hl 1 rfl) ?_
        refine lv_aload_n hx hb dd_M_read_33 rfl (lv_at hl 0 rfl) ?_
        refine va_get (D := (dC, dI)) (ci := 6) (v := .int ln) (C := cn_M) (T := tt_M) (N := 17) hx hb ht in_M hown hK hP 0 rfl rfl 8 (by decide) (ht _ tw_3_49) (fun _ h9 => h9) rfl dd_M_read_34 ?_
        refine lv_icmp_ge (tgt := 157) hx hb dd_M_read_37 (by decide) (fun c_57 => ?_) (fun c_57 => ?_)
        · have hF := jv_t c_57 hF
          exact bl157 mt en sx pl ov tk cu pa re cl si lt rd x2 x3 hF H locs hP hD hS ls (lv_sub hl [0, 2, 3] rfl)
        · have hF := jv_f c_57 hF
          refine lv_aload_n hx hb dd_M_read_40 rfl (lv_at hl 0 rfl) ?_
          refine lv_iload_n hx hb dd_M_read_41 rfl (lv_at hl 1 rfl) ?_
          refine va_put (D := (dC, dI)) (ci := 6) (v := .int x1) (ty := .int) (C := cn_M) (T := tt_M) (N := 17) hx hb ht in_M ty_M tyok_M nm_M hown hK hP hD hS 0 rfl rfl 11 (by decide) (ht _ tw_3_52) (fun _ h9 => h9) rfl (by decide +kernel) rfl rfl (Nat.le_of_ble_eq_true rfl) dd_M_read_42 (fun H_58 locs_59 hP hD hS => ?_)
          have hP : va_P (dC, dI) vwCl [(h0, .inr (6, [.int bg, .ref h1, .ref h2, .ref h3, .ref h4, .ref h5, .ref h6, .ref h7, .int ln, .ref h8, .int mt, .int x1, .int sx, .int pl, .int ov, .int tk, .ref h9])), (h1, .inl (cC, 6, .inl na)), (h2, .inl (cI, 2, .inl cu)), (h3, .inl (cI, 48, .inl pa)), (h4, .inl (cI, 48, .inl re)), (h5, .inl (cZ, 48, .inl cl)), (h6, .inl (cI, 48, .inl si)), (h7, .inl (cC, 288, .inl lt)), (h8, .inl (cC, 3000, .inl pg)), (h9, .inl (cC, 6, .inl rd))] H_58 := hP
          have hD : va_D A [(h0, .inr (6, [.int bg, .ref h1, .ref h2, .ref h3, .ref h4, .ref h5, .ref h6, .ref h7, .int ln, .ref h8, .int mt, .int x1, .int sx, .int pl, .int ov, .int tk, .ref h9])), (h1, .inl (cC, 6, .inl na)), (h2, .inl (cI, 2, .inl cu)), (h3, .inl (cI, 48, .inl pa)), (h4, .inl (cI, 48, .inl re)), (h5, .inl (cZ, 48, .inl cl)), (h6, .inl (cI, 48, .inl si)), (h7, .inl (cC, 288, .inl lt)), (h8, .inl (cC, 3000, .inl pg)), (h9, .inl (cC, 6, .inl rd))] := hD
          exact lp45 4000 mt x1 sx pl ov tk cu pa re cl si lt rd x1 x2 hF H_58 locs_59 hP hD hS ls (lv_sub hl [0, 1, 2] rfl)
  unfold fn_M_read at hF
  refine lv_aload_n hx hb dd_M_read_0 rfl (lv_at hl 0 rfl) ?_
  refine va_get (D := (dC, dI)) (ci := 6) (v := .ref h2) (C := cn_M) (T := tt_M) (N := 17) hx hb ht in_M hown hK hP 0 rfl rfl 2 (by decide) (ht _ tw_3_43) (fun _ h9 => h9) rfl dd_M_read_1 ?_
  refine lv_iconst (v := 1) hx hb dd_M_read_4 (by decide) ?_
  refine lv_iconst (v := 0) hx hb dd_M_read_5 (by decide) ?_
  obtain ⟨g_60, hF⟩ := jv_gi hF
  refine va_iast hx hb hK hP hD hS 2 0 rfl rfl (jv_in g_60) dd_M_read_6 (fun H_61 locs_62 hP hD hS => ?_)
  have hP : va_P (dC, dI) vwCl [(h0, .inr (6, [.int bg, .ref h1, .ref h2, .ref h3, .ref h4, .ref h5, .ref h6, .ref h7, .int ln, .ref h8, .int mt, .int en, .int sx, .int pl, .int ov, .int tk, .ref h9])), (h1, .inl (cC, 6, .inl na)), (h2, .inl (cI, 2, .inl (upd cu (1 : Int32).toNatClampNeg 0))), (h3, .inl (cI, 48, .inl pa)), (h4, .inl (cI, 48, .inl re)), (h5, .inl (cZ, 48, .inl cl)), (h6, .inl (cI, 48, .inl si)), (h7, .inl (cC, 288, .inl lt)), (h8, .inl (cC, 3000, .inl pg)), (h9, .inl (cC, 6, .inl rd))] H_61 := hP
  have hD : va_D A [(h0, .inr (6, [.int bg, .ref h1, .ref h2, .ref h3, .ref h4, .ref h5, .ref h6, .ref h7, .int ln, .ref h8, .int mt, .int en, .int sx, .int pl, .int ov, .int tk, .ref h9])), (h1, .inl (cC, 6, .inl na)), (h2, .inl (cI, 2, .inl (upd cu (1 : Int32).toNatClampNeg 0))), (h3, .inl (cI, 48, .inl pa)), (h4, .inl (cI, 48, .inl re)), (h5, .inl (cZ, 48, .inl cl)), (h6, .inl (cI, 48, .inl si)), (h7, .inl (cC, 288, .inl lt)), (h8, .inl (cC, 3000, .inl pg)), (h9, .inl (cC, 6, .inl rd))] := hD
  refine lv_aload_n hx hb dd_M_read_7 rfl (lv_at hl 0 rfl) ?_
  refine lv_iconst (v := (-1)) hx hb dd_M_read_8 (by decide) ?_
  refine va_put (D := (dC, dI)) (ci := 6) (v := .int (-1)) (ty := .int) (C := cn_M) (T := tt_M) (N := 17) hx hb ht in_M ty_M tyok_M nm_M hown hK hP hD hS 0 rfl rfl 12 (by decide) (ht _ tw_3_53) (fun _ h9 => h9) rfl (by decide +kernel) rfl rfl (Nat.le_of_ble_eq_true rfl) dd_M_read_9 (fun H_63 locs_64 hP hD hS => ?_)
  have hP : va_P (dC, dI) vwCl [(h0, .inr (6, [.int bg, .ref h1, .ref h2, .ref h3, .ref h4, .ref h5, .ref h6, .ref h7, .int ln, .ref h8, .int mt, .int en, .int (-1), .int pl, .int ov, .int tk, .ref h9])), (h1, .inl (cC, 6, .inl na)), (h2, .inl (cI, 2, .inl (upd cu (1 : Int32).toNatClampNeg 0))), (h3, .inl (cI, 48, .inl pa)), (h4, .inl (cI, 48, .inl re)), (h5, .inl (cZ, 48, .inl cl)), (h6, .inl (cI, 48, .inl si)), (h7, .inl (cC, 288, .inl lt)), (h8, .inl (cC, 3000, .inl pg)), (h9, .inl (cC, 6, .inl rd))] H_63 := hP
  have hD : va_D A [(h0, .inr (6, [.int bg, .ref h1, .ref h2, .ref h3, .ref h4, .ref h5, .ref h6, .ref h7, .int ln, .ref h8, .int mt, .int en, .int (-1), .int pl, .int ov, .int tk, .ref h9])), (h1, .inl (cC, 6, .inl na)), (h2, .inl (cI, 2, .inl (upd cu (1 : Int32).toNatClampNeg 0))), (h3, .inl (cI, 48, .inl pa)), (h4, .inl (cI, 48, .inl re)), (h5, .inl (cZ, 48, .inl cl)), (h6, .inl (cI, 48, .inl si)), (h7, .inl (cC, 288, .inl lt)), (h8, .inl (cC, 3000, .inl pg)), (h9, .inl (cC, 6, .inl rd))] := hD
  refine lv_aload_n hx hb dd_M_read_12 rfl (lv_at hl 0 rfl) ?_
  refine lv_iconst (v := 0) hx hb dd_M_read_13 (by decide) ?_
  refine va_put (D := (dC, dI)) (ci := 6) (v := .int 0) (ty := .boolean) (C := cn_M) (T := tt_M) (N := 17) hx hb ht in_M ty_M tyok_M nm_M hown hK hP hD hS 0 rfl rfl 13 (by decide) (ht _ tw_3_54) (fun _ h9 => h9) rfl (by decide +kernel) rfl rfl (Nat.le_of_ble_eq_true rfl) dd_M_read_14 (fun H_65 locs_66 hP hD hS => ?_)
  have hP : va_P (dC, dI) vwCl [(h0, .inr (6, [.int bg, .ref h1, .ref h2, .ref h3, .ref h4, .ref h5, .ref h6, .ref h7, .int ln, .ref h8, .int mt, .int en, .int (-1), .int 0, .int ov, .int tk, .ref h9])), (h1, .inl (cC, 6, .inl na)), (h2, .inl (cI, 2, .inl (upd cu (1 : Int32).toNatClampNeg 0))), (h3, .inl (cI, 48, .inl pa)), (h4, .inl (cI, 48, .inl re)), (h5, .inl (cZ, 48, .inl cl)), (h6, .inl (cI, 48, .inl si)), (h7, .inl (cC, 288, .inl lt)), (h8, .inl (cC, 3000, .inl pg)), (h9, .inl (cC, 6, .inl rd))] H_65 := hP
  have hD : va_D A [(h0, .inr (6, [.int bg, .ref h1, .ref h2, .ref h3, .ref h4, .ref h5, .ref h6, .ref h7, .int ln, .ref h8, .int mt, .int en, .int (-1), .int 0, .int ov, .int tk, .ref h9])), (h1, .inl (cC, 6, .inl na)), (h2, .inl (cI, 2, .inl (upd cu (1 : Int32).toNatClampNeg 0))), (h3, .inl (cI, 48, .inl pa)), (h4, .inl (cI, 48, .inl re)), (h5, .inl (cZ, 48, .inl cl)), (h6, .inl (cI, 48, .inl si)), (h7, .inl (cC, 288, .inl lt)), (h8, .inl (cC, 3000, .inl pg)), (h9, .inl (cC, 6, .inl rd))] := hD
  refine lv_aload_n hx hb dd_M_read_17 rfl (lv_at hl 0 rfl) ?_
  refine lv_iconst (v := 0) hx hb dd_M_read_18 (by decide) ?_
  refine va_put (D := (dC, dI)) (ci := 6) (v := .int 0) (ty := .boolean) (C := cn_M) (T := tt_M) (N := 17) hx hb ht in_M ty_M tyok_M nm_M hown hK hP hD hS 0 rfl rfl 14 (by decide) (ht _ tw_3_55) (fun _ h9 => h9) rfl (by decide +kernel) rfl rfl (Nat.le_of_ble_eq_true rfl) dd_M_read_19 (fun H_67 locs_68 hP hD hS => ?_)
  have hP : va_P (dC, dI) vwCl [(h0, .inr (6, [.int bg, .ref h1, .ref h2, .ref h3, .ref h4, .ref h5, .ref h6, .ref h7, .int ln, .ref h8, .int mt, .int en, .int (-1), .int 0, .int 0, .int tk, .ref h9])), (h1, .inl (cC, 6, .inl na)), (h2, .inl (cI, 2, .inl (upd cu (1 : Int32).toNatClampNeg 0))), (h3, .inl (cI, 48, .inl pa)), (h4, .inl (cI, 48, .inl re)), (h5, .inl (cZ, 48, .inl cl)), (h6, .inl (cI, 48, .inl si)), (h7, .inl (cC, 288, .inl lt)), (h8, .inl (cC, 3000, .inl pg)), (h9, .inl (cC, 6, .inl rd))] H_67 := hP
  have hD : va_D A [(h0, .inr (6, [.int bg, .ref h1, .ref h2, .ref h3, .ref h4, .ref h5, .ref h6, .ref h7, .int ln, .ref h8, .int mt, .int en, .int (-1), .int 0, .int 0, .int tk, .ref h9])), (h1, .inl (cC, 6, .inl na)), (h2, .inl (cI, 2, .inl (upd cu (1 : Int32).toNatClampNeg 0))), (h3, .inl (cI, 48, .inl pa)), (h4, .inl (cI, 48, .inl re)), (h5, .inl (cZ, 48, .inl cl)), (h6, .inl (cI, 48, .inl si)), (h7, .inl (cC, 288, .inl lt)), (h8, .inl (cC, 3000, .inl pg)), (h9, .inl (cC, 6, .inl rd))] := hD
  refine lv_iconst (v := 0) hx hb dd_M_read_22 (by decide) ?_
  refine lv_istore_n (lv' := [(1, .int 0), (0, .ref h0)]) hx hb dd_M_read_23 rfl hl (by decide) rfl (fun ls hl => ?_)
  refine lv_iconst (v := 1) hx hb dd_M_read_24 (by decide) ?_
  refine lv_istore_n (lv' := [(2, .int 1), (1, .int 0), (0, .ref h0)]) hx hb dd_M_read_25 rfl hl (by decide) rfl (fun ls hl => ?_)
  refine lv_iconst (v := 1) hx hb dd_M_read_26 (by decide) ?_
  refine lv_istore_n (lv' := [(3, .int 1), (2, .int 1), (1, .int 0), (0, .ref h0)]) hx hb dd_M_read_27 rfl hl (by decide) rfl (fun ls hl => ?_)
  exact lp28 4000 mt en (-1) 0 0 tk (upd cu (1 : Int32).toNatClampNeg 0) pa re cl si lt rd 0 1 1 hF H_67 locs_68 hP hD hS ls (lv_sub hl [3, 2, 1, 0] rfl)
set_option maxHeartbeats 40000000 in
set_option maxRecDepth 100000 in
theorem c_M_length (l : Launch) (dC : Nat → ClassId) (dI : Nat → Nat → Nat) (cI cL cC cZ : ClassId) (h0 h1 h2 h3 h4 h5 h6 h7 h8 h9 : Nat) (sz : Nat) (bg : Int32) (ln : Int32) (mt : Int32) (en : Int32) (sx : Int32) (pl : Int32) (ov : Int32) (tk : Int32) (na : Nat → Int32) (cu : Nat → Int32) (pa : Nat → Int32) (re : Nat → Int32) (cl : Nat → Int32) (si : Nat → Int32) (lt : Nat → Int32) (pg : Nat → Int32) (rd : Nat → Int32)  (out : Int32) (hF : fn_M_length ln = some out) : Met l yy_M_length ws_M_length { frames := 0, cells := 0, slots := 0, locals := 0 } (mP_ (dC, dI) (tk_ cI cL cC cZ) [(h0, .inr (6, [.int bg, .ref h1, .ref h2, .ref h3, .ref h4, .ref h5, .ref h6, .ref h7, .int ln, .ref h8, .int mt, .int en, .int sx, .int pl, .int ov, .int tk, .ref h9])), (h1, .inl (cC, 6, .inl na)), (h2, .inl (cI, 2, .inl cu)), (h3, .inl (cI, 48, .inl pa)), (h4, .inl (cI, 48, .inl re)), (h5, .inl (cZ, 48, .inl cl)), (h6, .inl (cI, 48, .inl si)), (h7, .inl (cC, 288, .inl lt)), (h8, .inl (cC, 3000, .inl pg)), (h9, .inl (cC, 6, .inl rd))] sz [.ref h0]) (vp_Si (fun r => r = out)) 0 0 (fun _ => False) := by
  refine Met.ofW (cc := cc_M_length) (maxL := 1) (ret := (some .int)) (by decide) rfl ?_
  intro p e s m args below meth c s₁ B hml hv
  obtain ⟨hargs, hsz, hP, hK, hD0⟩ := hv
  have hx := B.exec
  have hb := B.bytes
  have hr := B.returns
  have hts := atoms_spec (ws := ws_M_length) B.pre
  have ht : ∀ w ∈ TB_, w.before args s = true := fun w h => hts w (List.mem_cons_of_mem _ h)
  have hown : s.vm.findClass cn_M = some m.cls := findClass_of_methodNamed B.named
  have hlocks := B.notSynchronized
  subst hsz
  have hD := hD0.self (sz := s.heap.size)
  generalize hAe : va_A [(h0, .inr (6, [.int bg, .ref h1, .ref h2, .ref h3, .ref h4, .ref h5, .ref h6, .ref h7, .int ln, .ref h8, .int mt, .int en, .int sx, .int pl, .int ov, .int tk, .ref h9])), (h1, .inl (cC, 6, .inl na)), (h2, .inl (cI, 2, .inl cu)), (h3, .inl (cI, 48, .inl pa)), (h4, .inl (cI, 48, .inl re)), (h5, .inl (cZ, 48, .inl cl)), (h6, .inl (cI, 48, .inl si)), (h7, .inl (cC, 288, .inl lt)), (h8, .inl (cC, 3000, .inl pg)), (h9, .inl (cC, 6, .inl rd))] s.heap.size = A at hD
  have hA : ∀ q : Nat, s.heap.size ≤ q → A q := fun q h => by rw [← hAe]; exact Or.inr h
  have hS : va_S A s.heap s.heap [] := va_S.rf
  have hP : va_P (dC, dI) vwCl [(h0, .inr (6, [.int bg, .ref h1, .ref h2, .ref h3, .ref h4, .ref h5, .ref h6, .ref h7, .int ln, .ref h8, .int mt, .int en, .int sx, .int pl, .int ov, .int tk, .ref h9])), (h1, .inl (cC, 6, .inl na)), (h2, .inl (cI, 2, .inl cu)), (h3, .inl (cI, 48, .inl pa)), (h4, .inl (cI, 48, .inl re)), (h5, .inl (cZ, 48, .inl cl)), (h6, .inl (cI, 48, .inl si)), (h7, .inl (cC, 288, .inl lt)), (h8, .inl (cC, 3000, .inl pg)), (h9, .inl (cC, 6, .inl rd))] s.heap := hP
  have hl := lv_entry [.ref h0] (n := 1) (Nat.le_of_ble_eq_true rfl)
  have he : entryFrame m args 1 = _ := (congrArg (fun a => entryFrame m a 1) hargs).trans (lg_entry_eq m [.ref h0] 1)
  rw [he]
  generalize (lg_sl [.ref h0] ++ List.replicate (1 - (lg_sl [.ref h0]).length) Slot.unset).toArray = ls at hl ⊢
  have hl : lv_has ls 1 [(0, .ref h0)] := hl
  generalize hQ : MQ below _ args s _ _ _ = Q
  unfold fn_M_length at hF
  refine lv_aload_n hx hb dd_M_length_0 rfl (lv_at hl 0 rfl) ?_
  refine va_get (D := (dC, dI)) (ci := 6) (v := .int ln) (C := cn_M) (T := tt_M) (N := 17) hx hb ht in_M hown hK hP 0 rfl rfl 8 (by decide) (ht _ tw_3_49) (fun _ h9 => h9) rfl dd_M_length_1 ?_
  subst hQ
  exact W.iret (v := ln) hx hb hr (fun t ht hW => ⟨ln, rfl, (Option.some.inj hF), ht⟩) (fun _ h => by cases h) dd_M_length_4
set_option maxHeartbeats 40000000 in
set_option maxRecDepth 100000 in
theorem c_M_at (l : Launch) (dC : Nat → ClassId) (dI : Nat → Nat → Nat) (cI cL cC cZ : ClassId) (h0 h1 h2 h3 h4 h5 h6 h7 h8 h9 : Nat) (sz : Nat) (bg : Int32) (ln : Int32) (mt : Int32) (en : Int32) (sx : Int32) (pl : Int32) (ov : Int32) (tk : Int32) (na : Nat → Int32) (cu : Nat → Int32) (pa : Nat → Int32) (re : Nat → Int32) (cl : Nat → Int32) (si : Nat → Int32) (lt : Nat → Int32) (pg : Nat → Int32) (rd : Nat → Int32) (x1 : Int32) (out : Int32) (hF : fn_M_at ln pg x1 = some out) : Met l yy_M_at ws_M_at { frames := 0, cells := 0, slots := 0, locals := 0 } (mP_ (dC, dI) (tk_ cI cL cC cZ) [(h0, .inr (6, [.int bg, .ref h1, .ref h2, .ref h3, .ref h4, .ref h5, .ref h6, .ref h7, .int ln, .ref h8, .int mt, .int en, .int sx, .int pl, .int ov, .int tk, .ref h9])), (h1, .inl (cC, 6, .inl na)), (h2, .inl (cI, 2, .inl cu)), (h3, .inl (cI, 48, .inl pa)), (h4, .inl (cI, 48, .inl re)), (h5, .inl (cZ, 48, .inl cl)), (h6, .inl (cI, 48, .inl si)), (h7, .inl (cC, 288, .inl lt)), (h8, .inl (cC, 3000, .inl pg)), (h9, .inl (cC, 6, .inl rd))] sz [.ref h0, .int x1]) (vp_Si (fun r => r = out)) 0 0 (fun _ => False) := by
  refine Met.ofW (cc := cc_M_at) (maxL := 2) (ret := (some .int)) (by decide) rfl ?_
  intro p e s m args below meth c s₁ B hml hv
  obtain ⟨hargs, hsz, hP, hK, hD0⟩ := hv
  have hx := B.exec
  have hb := B.bytes
  have hr := B.returns
  have hts := atoms_spec (ws := ws_M_at) B.pre
  have ht : ∀ w ∈ TB_, w.before args s = true := fun w h => hts w (List.mem_cons_of_mem _ h)
  have hown : s.vm.findClass cn_M = some m.cls := findClass_of_methodNamed B.named
  have hlocks := B.notSynchronized
  subst hsz
  have hD := hD0.self (sz := s.heap.size)
  generalize hAe : va_A [(h0, .inr (6, [.int bg, .ref h1, .ref h2, .ref h3, .ref h4, .ref h5, .ref h6, .ref h7, .int ln, .ref h8, .int mt, .int en, .int sx, .int pl, .int ov, .int tk, .ref h9])), (h1, .inl (cC, 6, .inl na)), (h2, .inl (cI, 2, .inl cu)), (h3, .inl (cI, 48, .inl pa)), (h4, .inl (cI, 48, .inl re)), (h5, .inl (cZ, 48, .inl cl)), (h6, .inl (cI, 48, .inl si)), (h7, .inl (cC, 288, .inl lt)), (h8, .inl (cC, 3000, .inl pg)), (h9, .inl (cC, 6, .inl rd))] s.heap.size = A at hD
  have hA : ∀ q : Nat, s.heap.size ≤ q → A q := fun q h => by rw [← hAe]; exact Or.inr h
  have hS : va_S A s.heap s.heap [] := va_S.rf
  have hP : va_P (dC, dI) vwCl [(h0, .inr (6, [.int bg, .ref h1, .ref h2, .ref h3, .ref h4, .ref h5, .ref h6, .ref h7, .int ln, .ref h8, .int mt, .int en, .int sx, .int pl, .int ov, .int tk, .ref h9])), (h1, .inl (cC, 6, .inl na)), (h2, .inl (cI, 2, .inl cu)), (h3, .inl (cI, 48, .inl pa)), (h4, .inl (cI, 48, .inl re)), (h5, .inl (cZ, 48, .inl cl)), (h6, .inl (cI, 48, .inl si)), (h7, .inl (cC, 288, .inl lt)), (h8, .inl (cC, 3000, .inl pg)), (h9, .inl (cC, 6, .inl rd))] s.heap := hP
  have hl := lv_entry [.ref h0, .int x1] (n := 2) (Nat.le_of_ble_eq_true rfl)
  have he : entryFrame m args 2 = _ := (congrArg (fun a => entryFrame m a 2) hargs).trans (lg_entry_eq m [.ref h0, .int x1] 2)
  rw [he]
  generalize (lg_sl [.ref h0, .int x1] ++ List.replicate (2 - (lg_sl [.ref h0, .int x1]).length) Slot.unset).toArray = ls at hl ⊢
  have hl : lv_has ls 2 [(0, .ref h0), (1, .int x1)] := hl
  generalize hQ : MQ below _ args s _ _ _ = Q
  unfold fn_M_at at hF
  refine lv_iload_n hx hb dd_M_at_0 rfl (lv_at hl 1 rfl) ?_
  refine lv_if_lt (tgt := 21) hx hb dd_M_at_1 (by decide) (fun c_4 => ?_) (fun c_4 => ?_)
  · have hF := jv_t c_4 hF
    refine lv_iconst (v := (-1)) hx hb dd_M_at_21 (by decide) ?_
    subst hQ
    exact W.iret (v := (-1)) hx hb hr (fun t ht hW => ⟨(-1), rfl, (Option.some.inj hF), ht⟩) (fun _ h => by cases h) dd_M_at_22
  · have hF := jv_f c_4 hF
    refine lv_iload_n hx hb dd_M_at_4 rfl (lv_at hl 1 rfl) ?_
    refine lv_aload_n hx hb dd_M_at_5 rfl (lv_at hl 0 rfl) ?_
    refine va_get (D := (dC, dI)) (ci := 6) (v := .int ln) (C := cn_M) (T := tt_M) (N := 17) hx hb ht in_M hown hK hP 0 rfl rfl 8 (by decide) (ht _ tw_3_49) (fun _ h9 => h9) rfl dd_M_at_6 ?_
    refine lv_icmp_ge (tgt := 21) hx hb dd_M_at_9 (by decide) (fun c_5 => ?_) (fun c_5 => ?_)
    · have hF := jv_t c_5 hF
      refine lv_iconst (v := (-1)) hx hb dd_M_at_21 (by decide) ?_
      subst hQ
      exact W.iret (v := (-1)) hx hb hr (fun t ht hW => ⟨(-1), rfl, (Option.some.inj hF), ht⟩) (fun _ h => by cases h) dd_M_at_22
    · have hF := jv_f c_5 hF
      refine lv_aload_n hx hb dd_M_at_12 rfl (lv_at hl 0 rfl) ?_
      refine va_get (D := (dC, dI)) (ci := 6) (v := .ref h8) (C := cn_M) (T := tt_M) (N := 17) hx hb ht in_M hown hK hP 0 rfl rfl 9 (by decide) (ht _ tw_3_50) (fun _ h9 => h9) rfl dd_M_at_13 ?_
      refine lv_iload_n hx hb dd_M_at_16 rfl (lv_at hl 1 rfl) ?_
      obtain ⟨g_6, hF⟩ := jv_gi hF
      refine va_cald hx hb hK hP 8 2 rfl rfl (jv_in g_6) dd_M_at_17 ?_
      refine lv_goto (tgt := 22) hx hb dd_M_at_18 (by decide) ?_
      subst hQ
      exact W.iret (v := pg x1.toNatClampNeg) hx hb hr (fun t ht hW => ⟨pg x1.toNatClampNeg, rfl, (Option.some.inj hF), ht⟩) (fun _ h => by cases h) dd_M_at_22
set_option maxHeartbeats 40000000 in
set_option maxRecDepth 100000 in
theorem c_M_fits (l : Launch) (dC : Nat → ClassId) (dI : Nat → Nat → Nat) (cI cL cC cZ : ClassId) (sz : Nat)  (x0 : Int32) (out : Int32) (hF : fn_M_fits x0 = some out) : Met l yy_M_fits ws_M_fits { frames := 0, cells := 0, slots := 0, locals := 0 } (mP_ (dC, dI) (tk_ cI cL cC cZ) [] sz [.int x0]) (vp_Si (fun r => r = out)) 0 0 (fun _ => False) := by
  refine Met.ofW (cc := cc_M_fits) (maxL := 1) (ret := (some .boolean)) (by decide) rfl ?_
  intro p e s m args below meth c s₁ B hml hv
  obtain ⟨hargs, hsz, hP, hK, hD0⟩ := hv
  have hx := B.exec
  have hb := B.bytes
  have hr := B.returns
  have hts := atoms_spec (ws := ws_M_fits) B.pre
  have ht : ∀ w ∈ TB_, w.before args s = true := fun w h => hts w (List.mem_cons_of_mem _ h)
  have hown : s.vm.findClass cn_M = some m.cls := findClass_of_methodNamed B.named
  have hlocks := B.notSynchronized
  subst hsz
  have hD := hD0.self (sz := s.heap.size)
  generalize hAe : va_A [] s.heap.size = A at hD
  have hA : ∀ q : Nat, s.heap.size ≤ q → A q := fun q h => by rw [← hAe]; exact Or.inr h
  have hS : va_S A s.heap s.heap [] := va_S.rf
  have hP : va_P (dC, dI) vwCl [] s.heap := hP
  have hl := lv_entry [.int x0] (n := 1) (Nat.le_of_ble_eq_true rfl)
  have he : entryFrame m args 1 = _ := (congrArg (fun a => entryFrame m a 1) hargs).trans (lg_entry_eq m [.int x0] 1)
  rw [he]
  generalize (lg_sl [.int x0] ++ List.replicate (1 - (lg_sl [.int x0]).length) Slot.unset).toArray = ls at hl ⊢
  have hl : lv_has ls 1 [(0, .int x0)] := hl
  generalize hQ : MQ below _ args s _ _ _ = Q
  unfold fn_M_fits at hF
  refine lv_iload_n hx hb dd_M_fits_0 rfl (lv_at hl 0 rfl) ?_
  refine lv_bipush (v := 10) hx hb dd_M_fits_1 (by decide) ?_
  refine lv_icmp_eq (tgt := 18) hx hb dd_M_fits_3 (by decide) (fun c_4 => ?_) (fun c_4 => ?_)
  · have hF := jv_t c_4 hF
    refine lv_iconst (v := 1) hx hb dd_M_fits_18 (by decide) ?_
    refine lv_goto (tgt := 23) hx hb dd_M_fits_19 (by decide) ?_
    subst hQ
    exact W.zret (v := 1) hx hb hr rfl (fun t ht hW => ⟨1, rfl, (Option.some.inj hF), ht⟩) (fun _ h => by cases h) dd_M_fits_23
  · have hF := jv_f c_4 hF
    refine lv_iload_n hx hb dd_M_fits_6 rfl (lv_at hl 0 rfl) ?_
    refine lv_bipush (v := 32) hx hb dd_M_fits_7 (by decide) ?_
    refine lv_icmp_lt (tgt := 22) hx hb dd_M_fits_9 (by decide) (fun c_5 => ?_) (fun c_5 => ?_)
    · have hF := jv_t c_5 hF
      refine lv_iconst (v := 0) hx hb dd_M_fits_22 (by decide) ?_
      subst hQ
      exact W.zret (v := 0) hx hb hr rfl (fun t ht hW => ⟨0, rfl, (Option.some.inj hF), ht⟩) (fun _ h => by cases h) dd_M_fits_23
    · have hF := jv_f c_5 hF
      refine lv_iload_n hx hb dd_M_fits_12 rfl (lv_at hl 0 rfl) ?_
      refine lv_bipush (v := 126) hx hb dd_M_fits_13 (by decide) ?_
      refine lv_icmp_gt (tgt := 22) hx hb dd_M_fits_15 (by decide) (fun c_6 => ?_) (fun c_6 => ?_)
      · have hF := jv_t c_6 hF
        refine lv_iconst (v := 0) hx hb dd_M_fits_22 (by decide) ?_
        subst hQ
        exact W.zret (v := 0) hx hb hr rfl (fun t ht hW => ⟨0, rfl, (Option.some.inj hF), ht⟩) (fun _ h => by cases h) dd_M_fits_23
      · have hF := jv_f c_6 hF
        refine lv_iconst (v := 1) hx hb dd_M_fits_18 (by decide) ?_
        refine lv_goto (tgt := 23) hx hb dd_M_fits_19 (by decide) ?_
        subst hQ
        exact W.zret (v := 1) hx hb hr rfl (fun t ht hW => ⟨1, rfl, (Option.some.inj hF), ht⟩) (fun _ h => by cases h) dd_M_fits_23
set_option maxHeartbeats 40000000 in
set_option maxRecDepth 100000 in
theorem c_M_put (l : Launch) (dC : Nat → ClassId) (dI : Nat → Nat → Nat) (cI cL cC cZ : ClassId) (h0 h1 h2 h3 h4 h5 h6 h7 h8 h9 : Nat) (sz : Nat) (bg : Int32) (ln : Int32) (mt : Int32) (en : Int32) (sx : Int32) (pl : Int32) (ov : Int32) (tk : Int32) (na : Nat → Int32) (cu : Nat → Int32) (pa : Nat → Int32) (re : Nat → Int32) (cl : Nat → Int32) (si : Nat → Int32) (lt : Nat → Int32) (pg : Nat → Int32) (rd : Nat → Int32) (x1 : Int32) (out : Int32 × Int32 × (Nat → Int32)) (hF : fn_M_put ln pg x1 = some out) : Met l yy_M_put ws_M_put { frames := 1, cells := 0, slots := 0, locals := 20 } (mP_ (dC, dI) (tk_ cI cL cC cZ) [(h0, .inr (6, [.int bg, .ref h1, .ref h2, .ref h3, .ref h4, .ref h5, .ref h6, .ref h7, .int ln, .ref h8, .int mt, .int en, .int sx, .int pl, .int ov, .int tk, .ref h9])), (h1, .inl (cC, 6, .inl na)), (h2, .inl (cI, 2, .inl cu)), (h3, .inl (cI, 48, .inl pa)), (h4, .inl (cI, 48, .inl re)), (h5, .inl (cZ, 48, .inl cl)), (h6, .inl (cI, 48, .inl si)), (h7, .inl (cC, 288, .inl lt)), (h8, .inl (cC, 3000, .inl pg)), (h9, .inl (cC, 6, .inl rd))] sz [.ref h0, .int x1]) (va_Qi (fun r (_ : Unit) => r = out.1) (mB_ (dC, dI) (tk_ cI cL cC cZ) [(h0, .inr (6, [.int bg, .ref h1, .ref h2, .ref h3, .ref h4, .ref h5, .ref h6, .ref h7, .int out.2.1, .ref h8, .int mt, .int en, .int sx, .int pl, .int ov, .int tk, .ref h9])), (h1, .inl (cC, 6, .inl na)), (h2, .inl (cI, 2, .inl cu)), (h3, .inl (cI, 48, .inl pa)), (h4, .inl (cI, 48, .inl re)), (h5, .inl (cZ, 48, .inl cl)), (h6, .inl (cI, 48, .inl si)), (h7, .inl (cC, 288, .inl lt)), (h8, .inl (cC, 3000, .inl out.2.2)), (h9, .inl (cC, 6, .inl rd))] (va_A [(h0, .inr (6, [.int bg, .ref h1, .ref h2, .ref h3, .ref h4, .ref h5, .ref h6, .ref h7, .int ln, .ref h8, .int mt, .int en, .int sx, .int pl, .int ov, .int tk, .ref h9])), (h1, .inl (cC, 6, .inl na)), (h2, .inl (cI, 2, .inl cu)), (h3, .inl (cI, 48, .inl pa)), (h4, .inl (cI, 48, .inl re)), (h5, .inl (cZ, 48, .inl cl)), (h6, .inl (cI, 48, .inl si)), (h7, .inl (cC, 288, .inl lt)), (h8, .inl (cC, 3000, .inl pg)), (h9, .inl (cC, 6, .inl rd))] sz)) (va_A [(h0, .inr (6, [.int bg, .ref h1, .ref h2, .ref h3, .ref h4, .ref h5, .ref h6, .ref h7, .int ln, .ref h8, .int mt, .int en, .int sx, .int pl, .int ov, .int tk, .ref h9])), (h1, .inl (cC, 6, .inl na)), (h2, .inl (cI, 2, .inl cu)), (h3, .inl (cI, 48, .inl pa)), (h4, .inl (cI, 48, .inl re)), (h5, .inl (cZ, 48, .inl cl)), (h6, .inl (cI, 48, .inl si)), (h7, .inl (cC, 288, .inl lt)), (h8, .inl (cC, 3000, .inl pg)), (h9, .inl (cC, 6, .inl rd))] sz)) 0 0 (va_A [(h0, .inr (6, [.int bg, .ref h1, .ref h2, .ref h3, .ref h4, .ref h5, .ref h6, .ref h7, .int ln, .ref h8, .int mt, .int en, .int sx, .int pl, .int ov, .int tk, .ref h9])), (h1, .inl (cC, 6, .inl na)), (h2, .inl (cI, 2, .inl cu)), (h3, .inl (cI, 48, .inl pa)), (h4, .inl (cI, 48, .inl re)), (h5, .inl (cZ, 48, .inl cl)), (h6, .inl (cI, 48, .inl si)), (h7, .inl (cC, 288, .inl lt)), (h8, .inl (cC, 3000, .inl pg)), (h9, .inl (cC, 6, .inl rd))] sz) := by
  refine Met.ofW (cc := cc_M_put) (maxL := 2) (ret := (some .boolean)) (by decide) rfl ?_
  intro p e s m args below meth c s₁ B hml hv
  obtain ⟨hargs, hsz, hP, hK, hD0⟩ := hv
  have hx := B.exec
  have hb := B.bytes
  have hr := B.returns
  have hts := atoms_spec (ws := ws_M_put) B.pre
  have ht : ∀ w ∈ TB_, w.before args s = true := fun w h => hts w (List.mem_cons_of_mem _ h)
  have hown : s.vm.findClass cn_M = some m.cls := findClass_of_methodNamed B.named
  have hlocks := B.notSynchronized
  subst hsz
  have hD := hD0.self (sz := s.heap.size)
  generalize hAe : va_A [(h0, .inr (6, [.int bg, .ref h1, .ref h2, .ref h3, .ref h4, .ref h5, .ref h6, .ref h7, .int ln, .ref h8, .int mt, .int en, .int sx, .int pl, .int ov, .int tk, .ref h9])), (h1, .inl (cC, 6, .inl na)), (h2, .inl (cI, 2, .inl cu)), (h3, .inl (cI, 48, .inl pa)), (h4, .inl (cI, 48, .inl re)), (h5, .inl (cZ, 48, .inl cl)), (h6, .inl (cI, 48, .inl si)), (h7, .inl (cC, 288, .inl lt)), (h8, .inl (cC, 3000, .inl pg)), (h9, .inl (cC, 6, .inl rd))] s.heap.size = A at hD ⊢
  have hA : ∀ q : Nat, s.heap.size ≤ q → A q := fun q h => by rw [← hAe]; exact Or.inr h
  have hS : va_S A s.heap s.heap [] := va_S.rf
  have hP : va_P (dC, dI) vwCl [(h0, .inr (6, [.int bg, .ref h1, .ref h2, .ref h3, .ref h4, .ref h5, .ref h6, .ref h7, .int ln, .ref h8, .int mt, .int en, .int sx, .int pl, .int ov, .int tk, .ref h9])), (h1, .inl (cC, 6, .inl na)), (h2, .inl (cI, 2, .inl cu)), (h3, .inl (cI, 48, .inl pa)), (h4, .inl (cI, 48, .inl re)), (h5, .inl (cZ, 48, .inl cl)), (h6, .inl (cI, 48, .inl si)), (h7, .inl (cC, 288, .inl lt)), (h8, .inl (cC, 3000, .inl pg)), (h9, .inl (cC, 6, .inl rd))] s.heap := hP
  have hl := lv_entry [.ref h0, .int x1] (n := 2) (Nat.le_of_ble_eq_true rfl)
  have he : entryFrame m args 2 = _ := (congrArg (fun a => entryFrame m a 2) hargs).trans (lg_entry_eq m [.ref h0, .int x1] 2)
  rw [he]
  generalize (lg_sl [.ref h0, .int x1] ++ List.replicate (2 - (lg_sl [.ref h0, .int x1]).length) Slot.unset).toArray = ls at hl ⊢
  have hl : lv_has ls 2 [(0, .ref h0), (1, .int x1)] := hl
  generalize hQ : MQ below _ args s _ _ _ = Q
  unfold fn_M_put at hF
  refine lv_iload_n hx hb dd_M_put_0 rfl (lv_at hl 1 rfl) ?_
  obtain ⟨o_1, ho_1, hF⟩ := jv_bi hF
  refine jv_ci (va_runS (As := [.int x1]) (rest := []) ⟨hx, hb, hml, hown, ht⟩ (c_M_fits l dC dI cI cL cC cZ s.heap.size x1 _ ho_1) (va_cwS 1 ht (gi_S tw_4_49 tw_4_50 tw_1_4 tw_4_51) rfl rfl rfl (by decide +kernel) ⟨Nat.le_of_ble_eq_true rfl, Nat.le_of_ble_eq_true rfl⟩) (jv_ps hK hP hD [] rfl (by decide) rfl) rfl rfl hl.1 rfl (lv_room (Nat.le_of_ble_eq_true rfl)) dd_M_put_1 ⟨Nat.le_of_ble_eq_true rfl, Nat.le_of_ble_eq_true rfl⟩) ?_
  refine lv_if_eq (tgt := 17) hx hb dd_M_put_4 (by decide) (fun c_8 => ?_) (fun c_8 => ?_)
  · have hF := jv_t c_8 hF
    refine lv_iconst (v := 0) hx hb dd_M_put_17 (by decide) ?_
    subst hQ
    obtain rfl := Option.some.inj hF
    exact W.zret (v := 0) hx hb hr rfl (fun t ht hW => ⟨⟨0, (), rfl, rfl, by rw [ht]; exact hP, va_K.moved hW.alike hK, hD⟩, hS.F ht⟩) hS.2.2 dd_M_put_18
  · have hF := jv_f c_8 hF
    refine lv_aload_n hx hb dd_M_put_7 rfl (lv_at hl 0 rfl) ?_
    refine va_get (D := (dC, dI)) (ci := 6) (v := .int ln) (C := cn_M) (T := tt_M) (N := 17) hx hb ht in_M hown hK hP 0 rfl rfl 8 (by decide) (ht _ tw_3_49) (fun _ h9 => h9) rfl dd_M_put_8 ?_
    refine lv_sipush (v := 3000) hx hb dd_M_put_11 (by decide) ?_
    refine lv_icmp_ne (tgt := 19) hx hb dd_M_put_14 (by decide) (fun c_9 => ?_) (fun c_9 => ?_)
    · have hF := jv_f c_9 hF
      refine lv_aload_n hx hb dd_M_put_19 rfl (lv_at hl 0 rfl) ?_
      refine va_get (D := (dC, dI)) (ci := 6) (v := .ref h8) (C := cn_M) (T := tt_M) (N := 17) hx hb ht in_M hown hK hP 0 rfl rfl 9 (by decide) (ht _ tw_3_50) (fun _ h9 => h9) rfl dd_M_put_20 ?_
      refine lv_aload_n hx hb dd_M_put_23 rfl (lv_at hl 0 rfl) ?_
      refine va_get (D := (dC, dI)) (ci := 6) (v := .int ln) (C := cn_M) (T := tt_M) (N := 17) hx hb ht in_M hown hK hP 0 rfl rfl 8 (by decide) (ht _ tw_3_49) (fun _ h9 => h9) rfl dd_M_put_24 ?_
      refine lv_iload_n hx hb dd_M_put_27 rfl (lv_at hl 1 rfl) ?_
      obtain ⟨g_10, hF⟩ := jv_gi hF
      refine va_cast hx hb hK hP hD hS 8 2 rfl rfl (jv_in g_10) dd_M_put_28 (fun H_11 locs_12 hP hD hS => ?_)
      have hP : va_P (dC, dI) vwCl [(h0, .inr (6, [.int bg, .ref h1, .ref h2, .ref h3, .ref h4, .ref h5, .ref h6, .ref h7, .int ln, .ref h8, .int mt, .int en, .int sx, .int pl, .int ov, .int tk, .ref h9])), (h1, .inl (cC, 6, .inl na)), (h2, .inl (cI, 2, .inl cu)), (h3, .inl (cI, 48, .inl pa)), (h4, .inl (cI, 48, .inl re)), (h5, .inl (cZ, 48, .inl cl)), (h6, .inl (cI, 48, .inl si)), (h7, .inl (cC, 288, .inl lt)), (h8, .inl (cC, 3000, .inl (upd pg ln.toNatClampNeg (vp_nar .char x1)))), (h9, .inl (cC, 6, .inl rd))] H_11 := hP
      have hD : va_D A [(h0, .inr (6, [.int bg, .ref h1, .ref h2, .ref h3, .ref h4, .ref h5, .ref h6, .ref h7, .int ln, .ref h8, .int mt, .int en, .int sx, .int pl, .int ov, .int tk, .ref h9])), (h1, .inl (cC, 6, .inl na)), (h2, .inl (cI, 2, .inl cu)), (h3, .inl (cI, 48, .inl pa)), (h4, .inl (cI, 48, .inl re)), (h5, .inl (cZ, 48, .inl cl)), (h6, .inl (cI, 48, .inl si)), (h7, .inl (cC, 288, .inl lt)), (h8, .inl (cC, 3000, .inl (upd pg ln.toNatClampNeg (vp_nar .char x1)))), (h9, .inl (cC, 6, .inl rd))] := hD
      refine lv_aload_n hx hb dd_M_put_29 rfl (lv_at hl 0 rfl) ?_
      refine lv_dup hx hb dd_M_put_30 rfl ?_
      refine va_get (D := (dC, dI)) (ci := 6) (v := .int ln) (C := cn_M) (T := tt_M) (N := 17) hx hb ht in_M hown hK hP 0 rfl rfl 8 (by decide) (ht _ tw_3_49) (fun _ h9 => h9) rfl dd_M_put_31 ?_
      refine lv_iconst (v := 1) hx hb dd_M_put_34 (by decide) ?_
      refine lv_iadd hx hb dd_M_put_35 ?_
      refine va_put (D := (dC, dI)) (ci := 6) (v := .int (ln + 1)) (ty := .int) (C := cn_M) (T := tt_M) (N := 17) hx hb ht in_M ty_M tyok_M nm_M hown hK hP hD hS 0 rfl rfl 8 (by decide) (ht _ tw_3_49) (fun _ h9 => h9) rfl (by decide +kernel) rfl rfl (Nat.le_of_ble_eq_true rfl) dd_M_put_36 (fun H_13 locs_14 hP hD hS => ?_)
      have hP : va_P (dC, dI) vwCl [(h0, .inr (6, [.int bg, .ref h1, .ref h2, .ref h3, .ref h4, .ref h5, .ref h6, .ref h7, .int (ln + 1), .ref h8, .int mt, .int en, .int sx, .int pl, .int ov, .int tk, .ref h9])), (h1, .inl (cC, 6, .inl na)), (h2, .inl (cI, 2, .inl cu)), (h3, .inl (cI, 48, .inl pa)), (h4, .inl (cI, 48, .inl re)), (h5, .inl (cZ, 48, .inl cl)), (h6, .inl (cI, 48, .inl si)), (h7, .inl (cC, 288, .inl lt)), (h8, .inl (cC, 3000, .inl (upd pg ln.toNatClampNeg (vp_nar .char x1)))), (h9, .inl (cC, 6, .inl rd))] H_13 := hP
      have hD : va_D A [(h0, .inr (6, [.int bg, .ref h1, .ref h2, .ref h3, .ref h4, .ref h5, .ref h6, .ref h7, .int (ln + 1), .ref h8, .int mt, .int en, .int sx, .int pl, .int ov, .int tk, .ref h9])), (h1, .inl (cC, 6, .inl na)), (h2, .inl (cI, 2, .inl cu)), (h3, .inl (cI, 48, .inl pa)), (h4, .inl (cI, 48, .inl re)), (h5, .inl (cZ, 48, .inl cl)), (h6, .inl (cI, 48, .inl si)), (h7, .inl (cC, 288, .inl lt)), (h8, .inl (cC, 3000, .inl (upd pg ln.toNatClampNeg (vp_nar .char x1)))), (h9, .inl (cC, 6, .inl rd))] := hD
      refine lv_iconst (v := 1) hx hb dd_M_put_39 (by decide) ?_
      subst hQ
      obtain rfl := Option.some.inj hF
      exact W.zret (v := 1) hx hb hr rfl (fun t ht hW => ⟨⟨1, (), rfl, rfl, by rw [ht]; exact hP, va_K.moved hW.alike hK, hD⟩, hS.F ht⟩) hS.2.2 dd_M_put_40
    · have hF := jv_t c_9 hF
      refine lv_iconst (v := 0) hx hb dd_M_put_17 (by decide) ?_
      subst hQ
      obtain rfl := Option.some.inj hF
      exact W.zret (v := 0) hx hb hr rfl (fun t ht hW => ⟨⟨0, (), rfl, rfl, by rw [ht]; exact hP, va_K.moved hW.alike hK, hD⟩, hS.F ht⟩) hS.2.2 dd_M_put_18
set_option maxHeartbeats 40000000 in
set_option maxRecDepth 100000 in
theorem c_M_poke (l : Launch) (dC : Nat → ClassId) (dI : Nat → Nat → Nat) (cI cL cC cZ : ClassId) (h0 h1 h2 h3 h4 h5 h6 h7 h8 h9 : Nat) (sz : Nat) (bg : Int32) (ln : Int32) (mt : Int32) (en : Int32) (sx : Int32) (pl : Int32) (ov : Int32) (tk : Int32) (na : Nat → Int32) (cu : Nat → Int32) (pa : Nat → Int32) (re : Nat → Int32) (cl : Nat → Int32) (si : Nat → Int32) (lt : Nat → Int32) (pg : Nat → Int32) (rd : Nat → Int32) (x1 : Int32) (x2 : Int32) (out : Int32 × (Nat → Int32)) (hF : fn_M_poke ln pg x1 x2 = some out) : Met l yy_M_poke ws_M_poke { frames := 1, cells := 0, slots := 0, locals := 20 } (mP_ (dC, dI) (tk_ cI cL cC cZ) [(h0, .inr (6, [.int bg, .ref h1, .ref h2, .ref h3, .ref h4, .ref h5, .ref h6, .ref h7, .int ln, .ref h8, .int mt, .int en, .int sx, .int pl, .int ov, .int tk, .ref h9])), (h1, .inl (cC, 6, .inl na)), (h2, .inl (cI, 2, .inl cu)), (h3, .inl (cI, 48, .inl pa)), (h4, .inl (cI, 48, .inl re)), (h5, .inl (cZ, 48, .inl cl)), (h6, .inl (cI, 48, .inl si)), (h7, .inl (cC, 288, .inl lt)), (h8, .inl (cC, 3000, .inl pg)), (h9, .inl (cC, 6, .inl rd))] sz [.ref h0, .int x1, .int x2]) (va_Qi (fun r (_ : Unit) => r = out.1) (mB_ (dC, dI) (tk_ cI cL cC cZ) [(h0, .inr (6, [.int bg, .ref h1, .ref h2, .ref h3, .ref h4, .ref h5, .ref h6, .ref h7, .int ln, .ref h8, .int mt, .int en, .int sx, .int pl, .int ov, .int tk, .ref h9])), (h1, .inl (cC, 6, .inl na)), (h2, .inl (cI, 2, .inl cu)), (h3, .inl (cI, 48, .inl pa)), (h4, .inl (cI, 48, .inl re)), (h5, .inl (cZ, 48, .inl cl)), (h6, .inl (cI, 48, .inl si)), (h7, .inl (cC, 288, .inl lt)), (h8, .inl (cC, 3000, .inl out.2)), (h9, .inl (cC, 6, .inl rd))] (va_A [(h0, .inr (6, [.int bg, .ref h1, .ref h2, .ref h3, .ref h4, .ref h5, .ref h6, .ref h7, .int ln, .ref h8, .int mt, .int en, .int sx, .int pl, .int ov, .int tk, .ref h9])), (h1, .inl (cC, 6, .inl na)), (h2, .inl (cI, 2, .inl cu)), (h3, .inl (cI, 48, .inl pa)), (h4, .inl (cI, 48, .inl re)), (h5, .inl (cZ, 48, .inl cl)), (h6, .inl (cI, 48, .inl si)), (h7, .inl (cC, 288, .inl lt)), (h8, .inl (cC, 3000, .inl pg)), (h9, .inl (cC, 6, .inl rd))] sz)) (va_A [(h0, .inr (6, [.int bg, .ref h1, .ref h2, .ref h3, .ref h4, .ref h5, .ref h6, .ref h7, .int ln, .ref h8, .int mt, .int en, .int sx, .int pl, .int ov, .int tk, .ref h9])), (h1, .inl (cC, 6, .inl na)), (h2, .inl (cI, 2, .inl cu)), (h3, .inl (cI, 48, .inl pa)), (h4, .inl (cI, 48, .inl re)), (h5, .inl (cZ, 48, .inl cl)), (h6, .inl (cI, 48, .inl si)), (h7, .inl (cC, 288, .inl lt)), (h8, .inl (cC, 3000, .inl pg)), (h9, .inl (cC, 6, .inl rd))] sz)) 0 0 (va_A [(h0, .inr (6, [.int bg, .ref h1, .ref h2, .ref h3, .ref h4, .ref h5, .ref h6, .ref h7, .int ln, .ref h8, .int mt, .int en, .int sx, .int pl, .int ov, .int tk, .ref h9])), (h1, .inl (cC, 6, .inl na)), (h2, .inl (cI, 2, .inl cu)), (h3, .inl (cI, 48, .inl pa)), (h4, .inl (cI, 48, .inl re)), (h5, .inl (cZ, 48, .inl cl)), (h6, .inl (cI, 48, .inl si)), (h7, .inl (cC, 288, .inl lt)), (h8, .inl (cC, 3000, .inl pg)), (h9, .inl (cC, 6, .inl rd))] sz) := by
  refine Met.ofW (cc := cc_M_poke) (maxL := 3) (ret := (some .boolean)) (by decide) rfl ?_
  intro p e s m args below meth c s₁ B hml hv
  obtain ⟨hargs, hsz, hP, hK, hD0⟩ := hv
  have hx := B.exec
  have hb := B.bytes
  have hr := B.returns
  have hts := atoms_spec (ws := ws_M_poke) B.pre
  have ht : ∀ w ∈ TB_, w.before args s = true := fun w h => hts w (List.mem_cons_of_mem _ h)
  have hown : s.vm.findClass cn_M = some m.cls := findClass_of_methodNamed B.named
  have hlocks := B.notSynchronized
  subst hsz
  have hD := hD0.self (sz := s.heap.size)
  generalize hAe : va_A [(h0, .inr (6, [.int bg, .ref h1, .ref h2, .ref h3, .ref h4, .ref h5, .ref h6, .ref h7, .int ln, .ref h8, .int mt, .int en, .int sx, .int pl, .int ov, .int tk, .ref h9])), (h1, .inl (cC, 6, .inl na)), (h2, .inl (cI, 2, .inl cu)), (h3, .inl (cI, 48, .inl pa)), (h4, .inl (cI, 48, .inl re)), (h5, .inl (cZ, 48, .inl cl)), (h6, .inl (cI, 48, .inl si)), (h7, .inl (cC, 288, .inl lt)), (h8, .inl (cC, 3000, .inl pg)), (h9, .inl (cC, 6, .inl rd))] s.heap.size = A at hD ⊢
  have hA : ∀ q : Nat, s.heap.size ≤ q → A q := fun q h => by rw [← hAe]; exact Or.inr h
  have hS : va_S A s.heap s.heap [] := va_S.rf
  have hP : va_P (dC, dI) vwCl [(h0, .inr (6, [.int bg, .ref h1, .ref h2, .ref h3, .ref h4, .ref h5, .ref h6, .ref h7, .int ln, .ref h8, .int mt, .int en, .int sx, .int pl, .int ov, .int tk, .ref h9])), (h1, .inl (cC, 6, .inl na)), (h2, .inl (cI, 2, .inl cu)), (h3, .inl (cI, 48, .inl pa)), (h4, .inl (cI, 48, .inl re)), (h5, .inl (cZ, 48, .inl cl)), (h6, .inl (cI, 48, .inl si)), (h7, .inl (cC, 288, .inl lt)), (h8, .inl (cC, 3000, .inl pg)), (h9, .inl (cC, 6, .inl rd))] s.heap := hP
  have hl := lv_entry [.ref h0, .int x1, .int x2] (n := 3) (Nat.le_of_ble_eq_true rfl)
  have he : entryFrame m args 3 = _ := (congrArg (fun a => entryFrame m a 3) hargs).trans (lg_entry_eq m [.ref h0, .int x1, .int x2] 3)
  rw [he]
  generalize (lg_sl [.ref h0, .int x1, .int x2] ++ List.replicate (3 - (lg_sl [.ref h0, .int x1, .int x2]).length) Slot.unset).toArray = ls at hl ⊢
  have hl : lv_has ls 3 [(0, .ref h0), (1, .int x1), (2, .int x2)] := hl
  generalize hQ : MQ below _ args s _ _ _ = Q
  unfold fn_M_poke at hF
  refine lv_iload_n hx hb dd_M_poke_0 rfl (lv_at hl 1 rfl) ?_
  refine lv_if_lt (tgt := 19) hx hb dd_M_poke_1 (by decide) (fun c_7 => ?_) (fun c_7 => ?_)
  · have hF := jv_t c_7 hF
    refine lv_iconst (v := 0) hx hb dd_M_poke_19 (by decide) ?_
    subst hQ
    obtain rfl := Option.some.inj hF
    exact W.zret (v := 0) hx hb hr rfl (fun t ht hW => ⟨⟨0, (), rfl, rfl, by rw [ht]; exact hP, va_K.moved hW.alike hK, hD⟩, hS.F ht⟩) hS.2.2 dd_M_poke_20
  · have hF := jv_f c_7 hF
    refine lv_iload_n hx hb dd_M_poke_4 rfl (lv_at hl 1 rfl) ?_
    refine lv_aload_n hx hb dd_M_poke_5 rfl (lv_at hl 0 rfl) ?_
    refine va_get (D := (dC, dI)) (ci := 6) (v := .int ln) (C := cn_M) (T := tt_M) (N := 17) hx hb ht in_M hown hK hP 0 rfl rfl 8 (by decide) (ht _ tw_3_49) (fun _ h9 => h9) rfl dd_M_poke_6 ?_
    refine lv_icmp_ge (tgt := 19) hx hb dd_M_poke_9 (by decide) (fun c_8 => ?_) (fun c_8 => ?_)
    · have hF := jv_t c_8 hF
      refine lv_iconst (v := 0) hx hb dd_M_poke_19 (by decide) ?_
      subst hQ
      obtain rfl := Option.some.inj hF
      exact W.zret (v := 0) hx hb hr rfl (fun t ht hW => ⟨⟨0, (), rfl, rfl, by rw [ht]; exact hP, va_K.moved hW.alike hK, hD⟩, hS.F ht⟩) hS.2.2 dd_M_poke_20
    · have hF := jv_f c_8 hF
      refine lv_iload_n hx hb dd_M_poke_12 rfl (lv_at hl 2 rfl) ?_
      obtain ⟨o_13, ho_13, hF⟩ := jv_bi hF
      refine jv_ci (va_runS (As := [.int x2]) (rest := []) ⟨hx, hb, hml, hown, ht⟩ (c_M_fits l dC dI cI cL cC cZ s.heap.size x2 _ ho_13) (va_cwS 1 ht (gi_S tw_4_49 tw_4_50 tw_1_4 tw_4_51) rfl rfl rfl (by decide +kernel) ⟨Nat.le_of_ble_eq_true rfl, Nat.le_of_ble_eq_true rfl⟩) (jv_ps hK hP hD [] rfl (by decide) rfl) rfl rfl hl.1 rfl (lv_room (Nat.le_of_ble_eq_true rfl)) dd_M_poke_13 ⟨Nat.le_of_ble_eq_true rfl, Nat.le_of_ble_eq_true rfl⟩) ?_
      refine lv_if_ne (tgt := 21) hx hb dd_M_poke_16 (by decide) (fun c_9 => ?_) (fun c_9 => ?_)
      · have hF := jv_f c_9 hF
        refine lv_aload_n hx hb dd_M_poke_21 rfl (lv_at hl 0 rfl) ?_
        refine va_get (D := (dC, dI)) (ci := 6) (v := .ref h8) (C := cn_M) (T := tt_M) (N := 17) hx hb ht in_M hown hK hP 0 rfl rfl 9 (by decide) (ht _ tw_3_50) (fun _ h9 => h9) rfl dd_M_poke_22 ?_
        refine lv_iload_n hx hb dd_M_poke_25 rfl (lv_at hl 1 rfl) ?_
        refine lv_iload_n hx hb dd_M_poke_26 rfl (lv_at hl 2 rfl) ?_
        obtain ⟨g_10, hF⟩ := jv_gi hF
        refine va_cast hx hb hK hP hD hS 8 2 rfl rfl (jv_in g_10) dd_M_poke_27 (fun H_11 locs_12 hP hD hS => ?_)
        have hP : va_P (dC, dI) vwCl [(h0, .inr (6, [.int bg, .ref h1, .ref h2, .ref h3, .ref h4, .ref h5, .ref h6, .ref h7, .int ln, .ref h8, .int mt, .int en, .int sx, .int pl, .int ov, .int tk, .ref h9])), (h1, .inl (cC, 6, .inl na)), (h2, .inl (cI, 2, .inl cu)), (h3, .inl (cI, 48, .inl pa)), (h4, .inl (cI, 48, .inl re)), (h5, .inl (cZ, 48, .inl cl)), (h6, .inl (cI, 48, .inl si)), (h7, .inl (cC, 288, .inl lt)), (h8, .inl (cC, 3000, .inl (upd pg x1.toNatClampNeg (vp_nar .char x2)))), (h9, .inl (cC, 6, .inl rd))] H_11 := hP
        have hD : va_D A [(h0, .inr (6, [.int bg, .ref h1, .ref h2, .ref h3, .ref h4, .ref h5, .ref h6, .ref h7, .int ln, .ref h8, .int mt, .int en, .int sx, .int pl, .int ov, .int tk, .ref h9])), (h1, .inl (cC, 6, .inl na)), (h2, .inl (cI, 2, .inl cu)), (h3, .inl (cI, 48, .inl pa)), (h4, .inl (cI, 48, .inl re)), (h5, .inl (cZ, 48, .inl cl)), (h6, .inl (cI, 48, .inl si)), (h7, .inl (cC, 288, .inl lt)), (h8, .inl (cC, 3000, .inl (upd pg x1.toNatClampNeg (vp_nar .char x2)))), (h9, .inl (cC, 6, .inl rd))] := hD
        refine lv_iconst (v := 1) hx hb dd_M_poke_28 (by decide) ?_
        subst hQ
        obtain rfl := Option.some.inj hF
        exact W.zret (v := 1) hx hb hr rfl (fun t ht hW => ⟨⟨1, (), rfl, rfl, by rw [ht]; exact hP, va_K.moved hW.alike hK, hD⟩, hS.F ht⟩) hS.2.2 dd_M_poke_29
      · have hF := jv_t c_9 hF
        refine lv_iconst (v := 0) hx hb dd_M_poke_19 (by decide) ?_
        subst hQ
        obtain rfl := Option.some.inj hF
        exact W.zret (v := 0) hx hb hr rfl (fun t ht hW => ⟨⟨0, (), rfl, rfl, by rw [ht]; exact hP, va_K.moved hW.alike hK, hD⟩, hS.F ht⟩) hS.2.2 dd_M_poke_20
set_option maxHeartbeats 40000000 in
set_option maxRecDepth 100000 in
theorem c_M_cut (l : Launch) (dC : Nat → ClassId) (dI : Nat → Nat → Nat) (cI cL cC cZ : ClassId) (h0 h1 h2 h3 h4 h5 h6 h7 h8 h9 : Nat) (sz : Nat) (bg : Int32) (ln : Int32) (mt : Int32) (en : Int32) (sx : Int32) (pl : Int32) (ov : Int32) (tk : Int32) (na : Nat → Int32) (cu : Nat → Int32) (pa : Nat → Int32) (re : Nat → Int32) (cl : Nat → Int32) (si : Nat → Int32) (lt : Nat → Int32) (pg : Nat → Int32) (rd : Nat → Int32) (x1 : Int32) (out : Int32 × Int32) (hF : fn_M_cut ln x1 = some out) : Met l yy_M_cut ws_M_cut { frames := 0, cells := 0, slots := 0, locals := 0 } (mP_ (dC, dI) (tk_ cI cL cC cZ) [(h0, .inr (6, [.int bg, .ref h1, .ref h2, .ref h3, .ref h4, .ref h5, .ref h6, .ref h7, .int ln, .ref h8, .int mt, .int en, .int sx, .int pl, .int ov, .int tk, .ref h9])), (h1, .inl (cC, 6, .inl na)), (h2, .inl (cI, 2, .inl cu)), (h3, .inl (cI, 48, .inl pa)), (h4, .inl (cI, 48, .inl re)), (h5, .inl (cZ, 48, .inl cl)), (h6, .inl (cI, 48, .inl si)), (h7, .inl (cC, 288, .inl lt)), (h8, .inl (cC, 3000, .inl pg)), (h9, .inl (cC, 6, .inl rd))] sz [.ref h0, .int x1]) (va_Qi (fun r (_ : Unit) => r = out.1) (mB_ (dC, dI) (tk_ cI cL cC cZ) [(h0, .inr (6, [.int bg, .ref h1, .ref h2, .ref h3, .ref h4, .ref h5, .ref h6, .ref h7, .int out.2, .ref h8, .int mt, .int en, .int sx, .int pl, .int ov, .int tk, .ref h9])), (h1, .inl (cC, 6, .inl na)), (h2, .inl (cI, 2, .inl cu)), (h3, .inl (cI, 48, .inl pa)), (h4, .inl (cI, 48, .inl re)), (h5, .inl (cZ, 48, .inl cl)), (h6, .inl (cI, 48, .inl si)), (h7, .inl (cC, 288, .inl lt)), (h8, .inl (cC, 3000, .inl pg)), (h9, .inl (cC, 6, .inl rd))] (va_A [(h0, .inr (6, [.int bg, .ref h1, .ref h2, .ref h3, .ref h4, .ref h5, .ref h6, .ref h7, .int ln, .ref h8, .int mt, .int en, .int sx, .int pl, .int ov, .int tk, .ref h9])), (h1, .inl (cC, 6, .inl na)), (h2, .inl (cI, 2, .inl cu)), (h3, .inl (cI, 48, .inl pa)), (h4, .inl (cI, 48, .inl re)), (h5, .inl (cZ, 48, .inl cl)), (h6, .inl (cI, 48, .inl si)), (h7, .inl (cC, 288, .inl lt)), (h8, .inl (cC, 3000, .inl pg)), (h9, .inl (cC, 6, .inl rd))] sz)) (va_A [(h0, .inr (6, [.int bg, .ref h1, .ref h2, .ref h3, .ref h4, .ref h5, .ref h6, .ref h7, .int ln, .ref h8, .int mt, .int en, .int sx, .int pl, .int ov, .int tk, .ref h9])), (h1, .inl (cC, 6, .inl na)), (h2, .inl (cI, 2, .inl cu)), (h3, .inl (cI, 48, .inl pa)), (h4, .inl (cI, 48, .inl re)), (h5, .inl (cZ, 48, .inl cl)), (h6, .inl (cI, 48, .inl si)), (h7, .inl (cC, 288, .inl lt)), (h8, .inl (cC, 3000, .inl pg)), (h9, .inl (cC, 6, .inl rd))] sz)) 0 0 (va_A [(h0, .inr (6, [.int bg, .ref h1, .ref h2, .ref h3, .ref h4, .ref h5, .ref h6, .ref h7, .int ln, .ref h8, .int mt, .int en, .int sx, .int pl, .int ov, .int tk, .ref h9])), (h1, .inl (cC, 6, .inl na)), (h2, .inl (cI, 2, .inl cu)), (h3, .inl (cI, 48, .inl pa)), (h4, .inl (cI, 48, .inl re)), (h5, .inl (cZ, 48, .inl cl)), (h6, .inl (cI, 48, .inl si)), (h7, .inl (cC, 288, .inl lt)), (h8, .inl (cC, 3000, .inl pg)), (h9, .inl (cC, 6, .inl rd))] sz) := by
  refine Met.ofW (cc := cc_M_cut) (maxL := 2) (ret := (some .boolean)) (by decide) rfl ?_
  intro p e s m args below meth c s₁ B hml hv
  obtain ⟨hargs, hsz, hP, hK, hD0⟩ := hv
  have hx := B.exec
  have hb := B.bytes
  have hr := B.returns
  have hts := atoms_spec (ws := ws_M_cut) B.pre
  have ht : ∀ w ∈ TB_, w.before args s = true := fun w h => hts w (List.mem_cons_of_mem _ h)
  have hown : s.vm.findClass cn_M = some m.cls := findClass_of_methodNamed B.named
  have hlocks := B.notSynchronized
  subst hsz
  have hD := hD0.self (sz := s.heap.size)
  generalize hAe : va_A [(h0, .inr (6, [.int bg, .ref h1, .ref h2, .ref h3, .ref h4, .ref h5, .ref h6, .ref h7, .int ln, .ref h8, .int mt, .int en, .int sx, .int pl, .int ov, .int tk, .ref h9])), (h1, .inl (cC, 6, .inl na)), (h2, .inl (cI, 2, .inl cu)), (h3, .inl (cI, 48, .inl pa)), (h4, .inl (cI, 48, .inl re)), (h5, .inl (cZ, 48, .inl cl)), (h6, .inl (cI, 48, .inl si)), (h7, .inl (cC, 288, .inl lt)), (h8, .inl (cC, 3000, .inl pg)), (h9, .inl (cC, 6, .inl rd))] s.heap.size = A at hD ⊢
  have hA : ∀ q : Nat, s.heap.size ≤ q → A q := fun q h => by rw [← hAe]; exact Or.inr h
  have hS : va_S A s.heap s.heap [] := va_S.rf
  have hP : va_P (dC, dI) vwCl [(h0, .inr (6, [.int bg, .ref h1, .ref h2, .ref h3, .ref h4, .ref h5, .ref h6, .ref h7, .int ln, .ref h8, .int mt, .int en, .int sx, .int pl, .int ov, .int tk, .ref h9])), (h1, .inl (cC, 6, .inl na)), (h2, .inl (cI, 2, .inl cu)), (h3, .inl (cI, 48, .inl pa)), (h4, .inl (cI, 48, .inl re)), (h5, .inl (cZ, 48, .inl cl)), (h6, .inl (cI, 48, .inl si)), (h7, .inl (cC, 288, .inl lt)), (h8, .inl (cC, 3000, .inl pg)), (h9, .inl (cC, 6, .inl rd))] s.heap := hP
  have hl := lv_entry [.ref h0, .int x1] (n := 2) (Nat.le_of_ble_eq_true rfl)
  have he : entryFrame m args 2 = _ := (congrArg (fun a => entryFrame m a 2) hargs).trans (lg_entry_eq m [.ref h0, .int x1] 2)
  rw [he]
  generalize (lg_sl [.ref h0, .int x1] ++ List.replicate (2 - (lg_sl [.ref h0, .int x1]).length) Slot.unset).toArray = ls at hl ⊢
  have hl : lv_has ls 2 [(0, .ref h0), (1, .int x1)] := hl
  generalize hQ : MQ below _ args s _ _ _ = Q
  unfold fn_M_cut at hF
  refine lv_iload_n hx hb dd_M_cut_0 rfl (lv_at hl 1 rfl) ?_
  refine lv_if_lt (tgt := 12) hx hb dd_M_cut_1 (by decide) (fun c_5 => ?_) (fun c_5 => ?_)
  · have hF := jv_t c_5 hF
    refine lv_iconst (v := 0) hx hb dd_M_cut_12 (by decide) ?_
    subst hQ
    obtain rfl := Option.some.inj hF
    exact W.zret (v := 0) hx hb hr rfl (fun t ht hW => ⟨⟨0, (), rfl, rfl, by rw [ht]; exact hP, va_K.moved hW.alike hK, hD⟩, hS.F ht⟩) hS.2.2 dd_M_cut_13
  · have hF := jv_f c_5 hF
    refine lv_iload_n hx hb dd_M_cut_4 rfl (lv_at hl 1 rfl) ?_
    refine lv_aload_n hx hb dd_M_cut_5 rfl (lv_at hl 0 rfl) ?_
    refine va_get (D := (dC, dI)) (ci := 6) (v := .int ln) (C := cn_M) (T := tt_M) (N := 17) hx hb ht in_M hown hK hP 0 rfl rfl 8 (by decide) (ht _ tw_3_49) (fun _ h9 => h9) rfl dd_M_cut_6 ?_
    refine lv_icmp_le (tgt := 14) hx hb dd_M_cut_9 (by decide) (fun c_6 => ?_) (fun c_6 => ?_)
    · have hF := jv_t c_6 hF
      refine lv_aload_n hx hb dd_M_cut_14 rfl (lv_at hl 0 rfl) ?_
      refine lv_iload_n hx hb dd_M_cut_15 rfl (lv_at hl 1 rfl) ?_
      refine va_put (D := (dC, dI)) (ci := 6) (v := .int x1) (ty := .int) (C := cn_M) (T := tt_M) (N := 17) hx hb ht in_M ty_M tyok_M nm_M hown hK hP hD hS 0 rfl rfl 8 (by decide) (ht _ tw_3_49) (fun _ h9 => h9) rfl (by decide +kernel) rfl rfl (Nat.le_of_ble_eq_true rfl) dd_M_cut_16 (fun H_7 locs_8 hP hD hS => ?_)
      have hP : va_P (dC, dI) vwCl [(h0, .inr (6, [.int bg, .ref h1, .ref h2, .ref h3, .ref h4, .ref h5, .ref h6, .ref h7, .int x1, .ref h8, .int mt, .int en, .int sx, .int pl, .int ov, .int tk, .ref h9])), (h1, .inl (cC, 6, .inl na)), (h2, .inl (cI, 2, .inl cu)), (h3, .inl (cI, 48, .inl pa)), (h4, .inl (cI, 48, .inl re)), (h5, .inl (cZ, 48, .inl cl)), (h6, .inl (cI, 48, .inl si)), (h7, .inl (cC, 288, .inl lt)), (h8, .inl (cC, 3000, .inl pg)), (h9, .inl (cC, 6, .inl rd))] H_7 := hP
      have hD : va_D A [(h0, .inr (6, [.int bg, .ref h1, .ref h2, .ref h3, .ref h4, .ref h5, .ref h6, .ref h7, .int x1, .ref h8, .int mt, .int en, .int sx, .int pl, .int ov, .int tk, .ref h9])), (h1, .inl (cC, 6, .inl na)), (h2, .inl (cI, 2, .inl cu)), (h3, .inl (cI, 48, .inl pa)), (h4, .inl (cI, 48, .inl re)), (h5, .inl (cZ, 48, .inl cl)), (h6, .inl (cI, 48, .inl si)), (h7, .inl (cC, 288, .inl lt)), (h8, .inl (cC, 3000, .inl pg)), (h9, .inl (cC, 6, .inl rd))] := hD
      refine lv_iconst (v := 1) hx hb dd_M_cut_19 (by decide) ?_
      subst hQ
      obtain rfl := Option.some.inj hF
      exact W.zret (v := 1) hx hb hr rfl (fun t ht hW => ⟨⟨1, (), rfl, rfl, by rw [ht]; exact hP, va_K.moved hW.alike hK, hD⟩, hS.F ht⟩) hS.2.2 dd_M_cut_20
    · have hF := jv_f c_6 hF
      refine lv_iconst (v := 0) hx hb dd_M_cut_12 (by decide) ?_
      subst hQ
      obtain rfl := Option.some.inj hF
      exact W.zret (v := 0) hx hb hr rfl (fun t ht hW => ⟨⟨0, (), rfl, rfl, by rw [ht]; exact hP, va_K.moved hW.alike hK, hD⟩, hS.F ht⟩) hS.2.2 dd_M_cut_13
set_option maxHeartbeats 40000000 in
set_option maxRecDepth 100000 in
theorem c_M_sameName (l : Launch) (dC : Nat → ClassId) (dI : Nat → Nat → Nat) (cI cL cC cZ : ClassId) (h0 h1 h2 h3 h4 h5 h6 h7 h8 h9 : Nat) (sz : Nat) (bg : Int32) (ln : Int32) (mt : Int32) (en : Int32) (sx : Int32) (pl : Int32) (ov : Int32) (tk : Int32) (na : Nat → Int32) (cu : Nat → Int32) (pa : Nat → Int32) (re : Nat → Int32) (cl : Nat → Int32) (si : Nat → Int32) (lt : Nat → Int32) (pg : Nat → Int32) (rd : Nat → Int32) (x1 : Int32) (x2 : Int32) (out : Int32) (hF : fn_M_sameName si lt x1 x2 = some out) : Met l yy_M_sameName ws_M_sameName { frames := 0, cells := 0, slots := 0, locals := 0 } (mP_ (dC, dI) (tk_ cI cL cC cZ) [(h0, .inr (6, [.int bg, .ref h1, .ref h2, .ref h3, .ref h4, .ref h5, .ref h6, .ref h7, .int ln, .ref h8, .int mt, .int en, .int sx, .int pl, .int ov, .int tk, .ref h9])), (h1, .inl (cC, 6, .inl na)), (h2, .inl (cI, 2, .inl cu)), (h3, .inl (cI, 48, .inl pa)), (h4, .inl (cI, 48, .inl re)), (h5, .inl (cZ, 48, .inl cl)), (h6, .inl (cI, 48, .inl si)), (h7, .inl (cC, 288, .inl lt)), (h8, .inl (cC, 3000, .inl pg)), (h9, .inl (cC, 6, .inl rd))] sz [.ref h0, .int x1, .int x2]) (vp_Si (fun r => r = out)) 0 0 (fun _ => False) := by
  refine Met.ofW (cc := cc_M_sameName) (maxL := 5) (ret := (some .boolean)) (by decide) rfl ?_
  intro p e s m args below meth c s₁ B hml hv
  obtain ⟨hargs, hsz, hP, hK, hD0⟩ := hv
  have hx := B.exec
  have hb := B.bytes
  have hr := B.returns
  have hts := atoms_spec (ws := ws_M_sameName) B.pre
  have ht : ∀ w ∈ TB_, w.before args s = true := fun w h => hts w (List.mem_cons_of_mem _ h)
  have hown : s.vm.findClass cn_M = some m.cls := findClass_of_methodNamed B.named
  have hlocks := B.notSynchronized
  subst hsz
  have hD := hD0.self (sz := s.heap.size)
  generalize hAe : va_A [(h0, .inr (6, [.int bg, .ref h1, .ref h2, .ref h3, .ref h4, .ref h5, .ref h6, .ref h7, .int ln, .ref h8, .int mt, .int en, .int sx, .int pl, .int ov, .int tk, .ref h9])), (h1, .inl (cC, 6, .inl na)), (h2, .inl (cI, 2, .inl cu)), (h3, .inl (cI, 48, .inl pa)), (h4, .inl (cI, 48, .inl re)), (h5, .inl (cZ, 48, .inl cl)), (h6, .inl (cI, 48, .inl si)), (h7, .inl (cC, 288, .inl lt)), (h8, .inl (cC, 3000, .inl pg)), (h9, .inl (cC, 6, .inl rd))] s.heap.size = A at hD
  have hA : ∀ q : Nat, s.heap.size ≤ q → A q := fun q h => by rw [← hAe]; exact Or.inr h
  have hS : va_S A s.heap s.heap [] := va_S.rf
  have hP : va_P (dC, dI) vwCl [(h0, .inr (6, [.int bg, .ref h1, .ref h2, .ref h3, .ref h4, .ref h5, .ref h6, .ref h7, .int ln, .ref h8, .int mt, .int en, .int sx, .int pl, .int ov, .int tk, .ref h9])), (h1, .inl (cC, 6, .inl na)), (h2, .inl (cI, 2, .inl cu)), (h3, .inl (cI, 48, .inl pa)), (h4, .inl (cI, 48, .inl re)), (h5, .inl (cZ, 48, .inl cl)), (h6, .inl (cI, 48, .inl si)), (h7, .inl (cC, 288, .inl lt)), (h8, .inl (cC, 3000, .inl pg)), (h9, .inl (cC, 6, .inl rd))] s.heap := hP
  have hl := lv_entry [.ref h0, .int x1, .int x2] (n := 5) (Nat.le_of_ble_eq_true rfl)
  have he : entryFrame m args 5 = _ := (congrArg (fun a => entryFrame m a 5) hargs).trans (lg_entry_eq m [.ref h0, .int x1, .int x2] 5)
  rw [he]
  generalize (lg_sl [.ref h0, .int x1, .int x2] ++ List.replicate (5 - (lg_sl [.ref h0, .int x1, .int x2]).length) Slot.unset).toArray = ls at hl ⊢
  have hl : lv_has ls 5 [(0, .ref h0), (1, .int x1), (2, .int x2)] := hl
  generalize hQ : MQ below _ args s _ _ _ = Q
  have lp24 : ∀ (n24 : Nat), ∀ (x1 : Int32) (x2 : Int32) (x3 : Int32) (x4 : Int32), fl_M_sameName_24 si lt  n24 (x1, x2, x3, x4) = some out → ∀ ls : Array Slot, lv_has ls 5 [(0, .ref h0), (1, .int x1), (2, .int x2), (3, .int x3), (4, .int x4)] → W p l e (headSpec ws_M_sameName { frames := 0, cells := 0, slots := 0, locals := 0 }).room s m args below meth c s.heap [] 0 0 Q (F0 m 24 ls []) := by
    intro n24
    induction n24 with
    | zero =>
      intro x1 x2 x3 x4 hF
      exact (jv_no hF).elim
    | succ n24 ih24 =>
      intro x1 x2 x3 x4 hF ls hl
      have hF : fb_M_sameName_24 si lt  (fl_M_sameName_24 si lt  n24) x1 x2 x3 x4 = some out := hF
      unfold fb_M_sameName_24 at hF
      refine lv_iload hx hb dd_M_sameName_24 (lv_at hl 4 rfl) ?_
      refine lv_aload_n hx hb dd_M_sameName_26 rfl (lv_at hl 0 rfl) ?_
      refine va_get (D := (dC, dI)) (ci := 6) (v := .ref h6) (C := cn_M) (T := tt_M) (N := 17) hx hb ht in_M hown hK hP 0 rfl rfl 6 (by decide) (ht _ tw_3_47) (fun _ h9 => h9) rfl dd_M_sameName_27 ?_
      refine lv_iload_n hx hb dd_M_sameName_30 rfl (lv_at hl 1 rfl) ?_
      obtain ⟨g_10, hF⟩ := jv_gi hF
      refine va_iald hx hb hK hP 6 0 rfl rfl (jv_in g_10) dd_M_sameName_31 ?_
      refine lv_icmp_ge (tgt := 78) hx hb dd_M_sameName_32 (by decide) (fun c_11 => ?_) (fun c_11 => ?_)
      · have hF := jv_t c_11 hF
        refine lv_iload_n hx hb dd_M_sameName_78 rfl (lv_at hl 3 rfl) ?_
        obtain ⟨z_12, hF⟩ := jv_gi hF
        subst hQ
        exact W.zret (v := x3) hx hb hr (jv_zn z_12).1 (fun t ht hW => ⟨x3, rfl, (Option.some.inj hF), ht⟩) (fun _ h => by cases h) dd_M_sameName_79
      · have hF := jv_f c_11 hF
        refine lv_iload_n hx hb dd_M_sameName_35 rfl (lv_at hl 3 rfl) ?_
        refine lv_if_eq (tgt := 78) hx hb dd_M_sameName_36 (by decide) (fun c_13 => ?_) (fun c_13 => ?_)
        · have hF := jv_t c_13 hF
          refine lv_iload_n hx hb dd_M_sameName_78 rfl (lv_at hl 3 rfl) ?_
          obtain ⟨z_14, hF⟩ := jv_gi hF
          subst hQ
          exact W.zret (v := x3) hx hb hr (jv_zn z_14).1 (fun t ht hW => ⟨x3, rfl, (Option.some.inj hF), ht⟩) (fun _ h => by cases h) dd_M_sameName_79
        · have hF := jv_f c_13 hF
          refine lv_aload_n hx hb dd_M_sameName_39 rfl (lv_at hl 0 rfl) ?_
          refine va_get (D := (dC, dI)) (ci := 6) (v := .ref h7) (C := cn_M) (T := tt_M) (N := 17) hx hb ht in_M hown hK hP 0 rfl rfl 7 (by decide) (ht _ tw_3_48) (fun _ h9 => h9) rfl dd_M_sameName_40 ?_
          refine lv_bipush (v := 6) hx hb dd_M_sameName_43 (by decide) ?_
          refine lv_iload_n hx hb dd_M_sameName_45 rfl (lv_at hl 1 rfl) ?_
          refine lv_imul hx hb dd_M_sameName_46 ?_
          refine lv_iload hx hb dd_M_sameName_47 (lv_at hl 4 rfl) ?_
          refine lv_iadd hx hb dd_M_sameName_49 ?_
          obtain ⟨g_15, hF⟩ := jv_gi hF
          refine va_cald hx hb hK hP 7 2 rfl rfl (jv_in g_15) dd_M_sameName_50 ?_
          refine lv_aload_n hx hb dd_M_sameName_51 rfl (lv_at hl 0 rfl) ?_
          refine va_get (D := (dC, dI)) (ci := 6) (v := .ref h7) (C := cn_M) (T := tt_M) (N := 17) hx hb ht in_M hown hK hP 0 rfl rfl 7 (by decide) (ht _ tw_3_48) (fun _ h9 => h9) rfl dd_M_sameName_52 ?_
          refine lv_bipush (v := 6) hx hb dd_M_sameName_55 (by decide) ?_
          refine lv_iload_n hx hb dd_M_sameName_57 rfl (lv_at hl 2 rfl) ?_
          refine lv_imul hx hb dd_M_sameName_58 ?_
          refine lv_iload hx hb dd_M_sameName_59 (lv_at hl 4 rfl) ?_
          refine lv_iadd hx hb dd_M_sameName_61 ?_
          obtain ⟨g_16, hF⟩ := jv_gi hF
          refine va_cald hx hb hK hP 7 2 rfl rfl (jv_in g_16) dd_M_sameName_62 ?_
          refine lv_icmp_ne (tgt := 70) hx hb dd_M_sameName_63 (by decide) (fun c_17 => ?_) (fun c_17 => ?_)
          · have hF := jv_f c_17 hF
            refine lv_iconst (v := 0) hx hb dd_M_sameName_70 (by decide) ?_
            refine lv_istore_n (lv' := [(3, .int 0), (0, .ref h0), (1, .int x1), (2, .int x2), (4, .int x4)]) hx hb dd_M_sameName_71 rfl hl (by decide) rfl (fun ls hl => ?_)
            refine lv_iinc (v := x4 + 1) (lv' := [(4, .int (x4 + 1)), (3, .int 0), (0, .ref h0), (1, .int x1), (2, .int x2)]) hx hb dd_M_sameName_72 hl (k := 4) rfl rfl (by decide) rfl (fun ls hl => ?_)
            refine lv_goto (tgt := 24) hx hb dd_M_sameName_75 (by decide) ?_
            exact ih24 x1 x2 0 (x4 + 1) hF ls (lv_sub hl [2, 3, 4, 1, 0] rfl)
          · have hF := jv_t c_17 hF
            refine lv_iconst (v := 1) hx hb dd_M_sameName_66 (by decide) ?_
            refine lv_goto (tgt := 71) hx hb dd_M_sameName_67 (by decide) ?_
            refine lv_istore_n (lv' := [(3, .int 1), (0, .ref h0), (1, .int x1), (2, .int x2), (4, .int x4)]) hx hb dd_M_sameName_71 rfl hl (by decide) rfl (fun ls hl => ?_)
            refine lv_iinc (v := x4 + 1) (lv' := [(4, .int (x4 + 1)), (3, .int 1), (0, .ref h0), (1, .int x1), (2, .int x2)]) hx hb dd_M_sameName_72 hl (k := 4) rfl rfl (by decide) rfl (fun ls hl => ?_)
            refine lv_goto (tgt := 24) hx hb dd_M_sameName_75 (by decide) ?_
            exact ih24 x1 x2 1 (x4 + 1) hF ls (lv_sub hl [2, 3, 4, 1, 0] rfl)
  unfold fn_M_sameName at hF
  refine lv_aload_n hx hb dd_M_sameName_0 rfl (lv_at hl 0 rfl) ?_
  refine va_get (D := (dC, dI)) (ci := 6) (v := .ref h6) (C := cn_M) (T := tt_M) (N := 17) hx hb ht in_M hown hK hP 0 rfl rfl 6 (by decide) (ht _ tw_3_47) (fun _ h9 => h9) rfl dd_M_sameName_1 ?_
  refine lv_iload_n hx hb dd_M_sameName_4 rfl (lv_at hl 1 rfl) ?_
  obtain ⟨g_18, hF⟩ := jv_gi hF
  refine va_iald hx hb hK hP 6 0 rfl rfl (jv_in g_18) dd_M_sameName_5 ?_
  refine lv_aload_n hx hb dd_M_sameName_6 rfl (lv_at hl 0 rfl) ?_
  refine va_get (D := (dC, dI)) (ci := 6) (v := .ref h6) (C := cn_M) (T := tt_M) (N := 17) hx hb ht in_M hown hK hP 0 rfl rfl 6 (by decide) (ht _ tw_3_47) (fun _ h9 => h9) rfl dd_M_sameName_7 ?_
  refine lv_iload_n hx hb dd_M_sameName_10 rfl (lv_at hl 2 rfl) ?_
  obtain ⟨g_19, hF⟩ := jv_gi hF
  refine va_iald hx hb hK hP 6 0 rfl rfl (jv_in g_19) dd_M_sameName_11 ?_
  refine lv_icmp_ne (tgt := 19) hx hb dd_M_sameName_12 (by decide) (fun c_20 => ?_) (fun c_20 => ?_)
  · have hF := jv_f c_20 hF
    refine lv_iconst (v := 0) hx hb dd_M_sameName_19 (by decide) ?_
    refine lv_istore_n (lv' := [(3, .int 0), (0, .ref h0), (1, .int x1), (2, .int x2)]) hx hb dd_M_sameName_20 rfl hl (by decide) rfl (fun ls hl => ?_)
    refine lv_iconst (v := 0) hx hb dd_M_sameName_21 (by decide) ?_
    refine lv_istore (lv' := [(4, .int 0), (3, .int 0), (0, .ref h0), (1, .int x1), (2, .int x2)]) hx hb dd_M_sameName_22 hl (by decide) rfl (fun ls hl => ?_)
    exact lp24 4000 x1 x2 0 0 hF ls (lv_sub hl [2, 3, 4, 1, 0] rfl)
  · have hF := jv_t c_20 hF
    refine lv_iconst (v := 1) hx hb dd_M_sameName_15 (by decide) ?_
    refine lv_goto (tgt := 20) hx hb dd_M_sameName_16 (by decide) ?_
    refine lv_istore_n (lv' := [(3, .int 1), (0, .ref h0), (1, .int x1), (2, .int x2)]) hx hb dd_M_sameName_20 rfl hl (by decide) rfl (fun ls hl => ?_)
    refine lv_iconst (v := 0) hx hb dd_M_sameName_21 (by decide) ?_
    refine lv_istore (lv' := [(4, .int 0), (3, .int 1), (0, .ref h0), (1, .int x1), (2, .int x2)]) hx hb dd_M_sameName_22 hl (by decide) rfl (fun ls hl => ?_)
    exact lp24 4000 x1 x2 1 0 hF ls (lv_sub hl [2, 3, 4, 1, 0] rfl)
set_option maxHeartbeats 40000000 in
set_option maxRecDepth 100000 in
theorem c_M_alike (l : Launch) (dC : Nat → ClassId) (dI : Nat → Nat → Nat) (cI cL cC cZ : ClassId) (h0 h1 h2 h3 h4 h5 h6 h7 h8 h9 : Nat) (sz : Nat) (bg : Int32) (ln : Int32) (mt : Int32) (en : Int32) (sx : Int32) (pl : Int32) (ov : Int32) (tk : Int32) (na : Nat → Int32) (cu : Nat → Int32) (pa : Nat → Int32) (re : Nat → Int32) (cl : Nat → Int32) (si : Nat → Int32) (lt : Nat → Int32) (pg : Nat → Int32) (rd : Nat → Int32) (x1 : Int32) (x2 : Int32) (out : Int32) (hF : fn_M_alike pa re si lt x1 x2 = some out) : Met l yy_M_alike ws_M_alike { frames := 1, cells := 0, slots := 0, locals := 24 } (mP_ (dC, dI) (tk_ cI cL cC cZ) [(h0, .inr (6, [.int bg, .ref h1, .ref h2, .ref h3, .ref h4, .ref h5, .ref h6, .ref h7, .int ln, .ref h8, .int mt, .int en, .int sx, .int pl, .int ov, .int tk, .ref h9])), (h1, .inl (cC, 6, .inl na)), (h2, .inl (cI, 2, .inl cu)), (h3, .inl (cI, 48, .inl pa)), (h4, .inl (cI, 48, .inl re)), (h5, .inl (cZ, 48, .inl cl)), (h6, .inl (cI, 48, .inl si)), (h7, .inl (cC, 288, .inl lt)), (h8, .inl (cC, 3000, .inl pg)), (h9, .inl (cC, 6, .inl rd))] sz [.ref h0, .int x1, .int x2]) (vp_Si (fun r => r = out)) 0 0 (fun _ => False) := by
  refine Met.ofW (cc := cc_M_alike) (maxL := 6) (ret := (some .boolean)) (by decide) rfl ?_
  intro p e s m args below meth c s₁ B hml hv
  obtain ⟨hargs, hsz, hP, hK, hD0⟩ := hv
  have hx := B.exec
  have hb := B.bytes
  have hr := B.returns
  have hts := atoms_spec (ws := ws_M_alike) B.pre
  have ht : ∀ w ∈ TB_, w.before args s = true := fun w h => hts w (List.mem_cons_of_mem _ h)
  have hown : s.vm.findClass cn_M = some m.cls := findClass_of_methodNamed B.named
  have hlocks := B.notSynchronized
  subst hsz
  have hD := hD0.self (sz := s.heap.size)
  generalize hAe : va_A [(h0, .inr (6, [.int bg, .ref h1, .ref h2, .ref h3, .ref h4, .ref h5, .ref h6, .ref h7, .int ln, .ref h8, .int mt, .int en, .int sx, .int pl, .int ov, .int tk, .ref h9])), (h1, .inl (cC, 6, .inl na)), (h2, .inl (cI, 2, .inl cu)), (h3, .inl (cI, 48, .inl pa)), (h4, .inl (cI, 48, .inl re)), (h5, .inl (cZ, 48, .inl cl)), (h6, .inl (cI, 48, .inl si)), (h7, .inl (cC, 288, .inl lt)), (h8, .inl (cC, 3000, .inl pg)), (h9, .inl (cC, 6, .inl rd))] s.heap.size = A at hD
  have hA : ∀ q : Nat, s.heap.size ≤ q → A q := fun q h => by rw [← hAe]; exact Or.inr h
  have hS : va_S A s.heap s.heap [] := va_S.rf
  have hP : va_P (dC, dI) vwCl [(h0, .inr (6, [.int bg, .ref h1, .ref h2, .ref h3, .ref h4, .ref h5, .ref h6, .ref h7, .int ln, .ref h8, .int mt, .int en, .int sx, .int pl, .int ov, .int tk, .ref h9])), (h1, .inl (cC, 6, .inl na)), (h2, .inl (cI, 2, .inl cu)), (h3, .inl (cI, 48, .inl pa)), (h4, .inl (cI, 48, .inl re)), (h5, .inl (cZ, 48, .inl cl)), (h6, .inl (cI, 48, .inl si)), (h7, .inl (cC, 288, .inl lt)), (h8, .inl (cC, 3000, .inl pg)), (h9, .inl (cC, 6, .inl rd))] s.heap := hP
  have hl := lv_entry [.ref h0, .int x1, .int x2] (n := 6) (Nat.le_of_ble_eq_true rfl)
  have he : entryFrame m args 6 = _ := (congrArg (fun a => entryFrame m a 6) hargs).trans (lg_entry_eq m [.ref h0, .int x1, .int x2] 6)
  rw [he]
  generalize (lg_sl [.ref h0, .int x1, .int x2] ++ List.replicate (6 - (lg_sl [.ref h0, .int x1, .int x2]).length) Slot.unset).toArray = ls at hl ⊢
  have hl : lv_has ls 6 [(0, .ref h0), (1, .int x1), (2, .int x2)] := hl
  generalize hQ : MQ below _ args s _ _ _ = Q
  have bl84 : ∀ (x3 : Int32) (x4 : Int32) (x5 : Int32), fb_M_alike_84 pa re si lt  x3 x4 x5 = some out → ∀ ls : Array Slot, lv_has ls 6 [(3, .int x3), (4, .int x4), (5, .int x5)] → W p l e (headSpec ws_M_alike { frames := 1, cells := 0, slots := 0, locals := 24 }).room s m args below meth c s.heap [] 0 0 Q (F0 m 84 ls []) := by
    intro x3 x4 x5 hF ls hl
    unfold fb_M_alike_84 at hF
    refine lv_iload_n hx hb dd_M_alike_84 rfl (lv_at hl 0 rfl) ?_
    refine lv_if_eq (tgt := 102) hx hb dd_M_alike_85 (by decide) (fun c_14 => ?_) (fun c_14 => ?_)
    · have hF := jv_t c_14 hF
      refine lv_iconst (v := 0) hx hb dd_M_alike_102 (by decide) ?_
      subst hQ
      exact W.zret (v := 0) hx hb hr rfl (fun t ht hW => ⟨0, rfl, (Option.some.inj hF), ht⟩) (fun _ h => by cases h) dd_M_alike_103
    · have hF := jv_f c_14 hF
      refine lv_iload hx hb dd_M_alike_88 (lv_at hl 1 rfl) ?_
      refine lv_if_ge (tgt := 102) hx hb dd_M_alike_90 (by decide) (fun c_15 => ?_) (fun c_15 => ?_)
      · have hF := jv_t c_15 hF
        refine lv_iconst (v := 0) hx hb dd_M_alike_102 (by decide) ?_
        subst hQ
        exact W.zret (v := 0) hx hb hr rfl (fun t ht hW => ⟨0, rfl, (Option.some.inj hF), ht⟩) (fun _ h => by cases h) dd_M_alike_103
      · have hF := jv_f c_15 hF
        refine lv_iload hx hb dd_M_alike_93 (lv_at hl 2 rfl) ?_
        refine lv_if_ge (tgt := 102) hx hb dd_M_alike_95 (by decide) (fun c_16 => ?_) (fun c_16 => ?_)
        · have hF := jv_t c_16 hF
          refine lv_iconst (v := 0) hx hb dd_M_alike_102 (by decide) ?_
          subst hQ
          exact W.zret (v := 0) hx hb hr rfl (fun t ht hW => ⟨0, rfl, (Option.some.inj hF), ht⟩) (fun _ h => by cases h) dd_M_alike_103
        · have hF := jv_f c_16 hF
          refine lv_iconst (v := 1) hx hb dd_M_alike_98 (by decide) ?_
          refine lv_goto (tgt := 103) hx hb dd_M_alike_99 (by decide) ?_
          subst hQ
          exact W.zret (v := 1) hx hb hr rfl (fun t ht hW => ⟨1, rfl, (Option.some.inj hF), ht⟩) (fun _ h => by cases h) dd_M_alike_103
  have lp32 : ∀ (n32 : Nat), ∀ (x3 : Int32) (x4 : Int32) (x5 : Int32), fl_M_alike_32 pa re si lt  n32 (x3, x4, x5) = some out → ∀ ls : Array Slot, lv_has ls 6 [(0, .ref h0), (3, .int x3), (4, .int x4), (5, .int x5)] → W p l e (headSpec ws_M_alike { frames := 1, cells := 0, slots := 0, locals := 24 }).room s m args below meth c s.heap [] 0 0 Q (F0 m 32 ls []) := by
    intro n32
    induction n32 with
    | zero =>
      intro x3 x4 x5 hF
      exact (jv_no hF).elim
    | succ n32 ih32 =>
      have bl62 : ∀ (x4 : Int32) (x5 : Int32) (y0 : Int32), fb_M_alike_62 pa re si lt (fl_M_alike_32 pa re si lt  n32) x4 x5 y0 = some out → ∀ ls : Array Slot, lv_has ls 6 [(0, .ref h0), (4, .int x4), (5, .int x5)] → W p l e (headSpec ws_M_alike { frames := 1, cells := 0, slots := 0, locals := 24 }).room s m args below meth c s.heap [] 0 0 Q (F0 m 62 ls [.int y0]) := by
        intro x4 x5 y0 hF ls hl
        unfold fb_M_alike_62 at hF
        refine lv_istore_n (lv' := [(3, .int y0), (0, .ref h0), (4, .int x4), (5, .int x5)]) hx hb dd_M_alike_62 rfl hl (by decide) rfl (fun ls hl => ?_)
        refine lv_aload_n hx hb dd_M_alike_63 rfl (lv_at hl 1 rfl) ?_
        refine va_get (D := (dC, dI)) (ci := 6) (v := .ref h3) (C := cn_M) (T := tt_M) (N := 17) hx hb ht in_M hown hK hP 0 rfl rfl 3 (by decide) (ht _ tw_3_44) (fun _ h9 => h9) rfl dd_M_alike_64 ?_
        refine lv_iload hx hb dd_M_alike_67 (lv_at hl 2 rfl) ?_
        obtain ⟨g_17, hF⟩ := jv_gi hF
        refine va_iald hx hb hK hP 3 0 rfl rfl (jv_in g_17) dd_M_alike_69 ?_
        refine lv_istore (lv' := [(4, .int (pa x4.toNatClampNeg)), (3, .int y0), (0, .ref h0), (5, .int x5)]) hx hb dd_M_alike_70 hl (by decide) rfl (fun ls hl => ?_)
        refine lv_aload_n hx hb dd_M_alike_72 rfl (lv_at hl 2 rfl) ?_
        refine va_get (D := (dC, dI)) (ci := 6) (v := .ref h3) (C := cn_M) (T := tt_M) (N := 17) hx hb ht in_M hown hK hP 0 rfl rfl 3 (by decide) (ht _ tw_3_44) (fun _ h9 => h9) rfl dd_M_alike_73 ?_
        refine lv_iload hx hb dd_M_alike_76 (lv_at hl 3 rfl) ?_
        obtain ⟨g_18, hF⟩ := jv_gi hF
        refine va_iald hx hb hK hP 3 0 rfl rfl (jv_in g_18) dd_M_alike_78 ?_
        refine lv_istore (lv' := [(5, .int (pa x5.toNatClampNeg)), (4, .int (pa x4.toNatClampNeg)), (3, .int y0), (0, .ref h0)]) hx hb dd_M_alike_79 hl (by decide) rfl (fun ls hl => ?_)
        refine lv_goto (tgt := 32) hx hb dd_M_alike_81 (by decide) ?_
        exact ih32 y0 (pa x4.toNatClampNeg) (pa x5.toNatClampNeg) hF ls (lv_sub hl [3, 2, 1, 0] rfl)
      intro x3 x4 x5 hF ls hl
      have hF : fb_M_alike_32 pa re si lt  (fl_M_alike_32 pa re si lt  n32) x3 x4 x5 = some out := hF
      unfold fb_M_alike_32 at hF
      refine lv_iload hx hb dd_M_alike_32 (lv_at hl 2 rfl) ?_
      refine lv_if_lt (tgt := 84) hx hb dd_M_alike_34 (by decide) (fun c_19 => ?_) (fun c_19 => ?_)
      · have hF := jv_t c_19 hF
        exact bl84 x3 x4 x5 hF ls (lv_sub hl [1, 2, 3] rfl)
      · have hF := jv_f c_19 hF
        refine lv_iload hx hb dd_M_alike_37 (lv_at hl 3 rfl) ?_
        refine lv_if_lt (tgt := 84) hx hb dd_M_alike_39 (by decide) (fun c_20 => ?_) (fun c_20 => ?_)
        · have hF := jv_t c_20 hF
          exact bl84 x3 x4 x5 hF ls (lv_sub hl [1, 2, 3] rfl)
        · have hF := jv_f c_20 hF
          refine lv_iload_n hx hb dd_M_alike_42 rfl (lv_at hl 1 rfl) ?_
          refine lv_if_eq (tgt := 61) hx hb dd_M_alike_43 (by decide) (fun c_21 => ?_) (fun c_21 => ?_)
          · have hF := jv_t c_21 hF
            refine lv_iconst (v := 0) hx hb dd_M_alike_61 (by decide) ?_
            exact bl62 x4 x5 0 hF ls (lv_sub hl [0, 2, 3] rfl)
          · have hF := jv_f c_21 hF
            refine lv_aload_n hx hb dd_M_alike_46 rfl (lv_at hl 0 rfl) ?_
            refine lv_iload hx hb dd_M_alike_47 (lv_at hl 2 rfl) ?_
            refine lv_iload hx hb dd_M_alike_49 (lv_at hl 3 rfl) ?_
            obtain ⟨o_51, ho_51, hF⟩ := jv_bi hF
            refine jv_ci (va_runV (C := cn_M) (As := [.int x4, .int x5]) (rest := []) ⟨hx, hb, hml, hown, ht⟩ (c_M_sameName l dC dI cI cL cC cZ h0 h1 h2 h3 h4 h5 h6 h7 h8 h9 s.heap.size bg ln mt en sx pl ov tk na cu pa re cl si lt pg rd x4 x5 _ ho_51) (cwV 2 ht (gi_V tw_4_68 tw_4_70 tw_p_45 tw_1_4 tw_4_71) rfl rfl rfl (by decide +kernel) ⟨Nat.le_of_ble_eq_true rfl, Nat.le_of_ble_eq_true rfl⟩) (jv_pv hK hP hD [0, 1, 2, 3, 4, 5, 6, 7, 8, 9] rfl (by decide) rfl (va_recv hK hP (ci := 6) (q0 := 0) rfl rfl)) rfl rfl hl.1 rfl (lv_room (Nat.le_of_ble_eq_true rfl)) dd_M_alike_51 ⟨Nat.le_of_ble_eq_true rfl, Nat.le_of_ble_eq_true rfl⟩) ?_
            refine lv_if_eq (tgt := 61) hx hb dd_M_alike_54 (by decide) (fun c_22 => ?_) (fun c_22 => ?_)
            · have hF := jv_t c_22 hF
              refine lv_iconst (v := 0) hx hb dd_M_alike_61 (by decide) ?_
              exact bl62 x4 x5 0 hF ls (lv_sub hl [0, 2, 3] rfl)
            · have hF := jv_f c_22 hF
              refine lv_iconst (v := 1) hx hb dd_M_alike_57 (by decide) ?_
              refine lv_goto (tgt := 62) hx hb dd_M_alike_58 (by decide) ?_
              exact bl62 x4 x5 1 hF ls (lv_sub hl [0, 2, 3] rfl)
  unfold fn_M_alike at hF
  refine lv_aload_n hx hb dd_M_alike_0 rfl (lv_at hl 0 rfl) ?_
  refine va_get (D := (dC, dI)) (ci := 6) (v := .ref h4) (C := cn_M) (T := tt_M) (N := 17) hx hb ht in_M hown hK hP 0 rfl rfl 4 (by decide) (ht _ tw_3_45) (fun _ h9 => h9) rfl dd_M_alike_1 ?_
  refine lv_iload_n hx hb dd_M_alike_4 rfl (lv_at hl 1 rfl) ?_
  obtain ⟨g_23, hF⟩ := jv_gi hF
  refine va_iald hx hb hK hP 4 0 rfl rfl (jv_in g_23) dd_M_alike_5 ?_
  refine lv_iconst (v := 4) hx hb dd_M_alike_6 (by decide) ?_
  refine lv_icmp_ge (tgt := 24) hx hb dd_M_alike_7 (by decide) (fun c_24 => ?_) (fun c_24 => ?_)
  · have hF := jv_t c_24 hF
    refine lv_iconst (v := 0) hx hb dd_M_alike_24 (by decide) ?_
    refine lv_istore_n (lv' := [(3, .int 0), (0, .ref h0), (1, .int x1), (2, .int x2)]) hx hb dd_M_alike_25 rfl hl (by decide) rfl (fun ls hl => ?_)
    refine lv_iload_n hx hb dd_M_alike_26 rfl (lv_at hl 2 rfl) ?_
    refine lv_istore (lv' := [(4, .int x1), (3, .int 0), (0, .ref h0), (1, .int x1), (2, .int x2)]) hx hb dd_M_alike_27 hl (by decide) rfl (fun ls hl => ?_)
    refine lv_iload_n hx hb dd_M_alike_29 rfl (lv_at hl 4 rfl) ?_
    refine lv_istore (lv' := [(5, .int x2), (4, .int x1), (3, .int 0), (0, .ref h0), (1, .int x1), (2, .int x2)]) hx hb dd_M_alike_30 hl (by decide) rfl (fun ls hl => ?_)
    exact lp32 4000 0 x1 x2 hF ls (lv_sub hl [3, 2, 1, 0] rfl)
  · have hF := jv_f c_24 hF
    refine lv_aload_n hx hb dd_M_alike_10 rfl (lv_at hl 0 rfl) ?_
    refine va_get (D := (dC, dI)) (ci := 6) (v := .ref h4) (C := cn_M) (T := tt_M) (N := 17) hx hb ht in_M hown hK hP 0 rfl rfl 4 (by decide) (ht _ tw_3_45) (fun _ h9 => h9) rfl dd_M_alike_11 ?_
    refine lv_iload_n hx hb dd_M_alike_14 rfl (lv_at hl 2 rfl) ?_
    obtain ⟨g_25, hF⟩ := jv_gi hF
    refine va_iald hx hb hK hP 4 0 rfl rfl (jv_in g_25) dd_M_alike_15 ?_
    refine lv_iconst (v := 4) hx hb dd_M_alike_16 (by decide) ?_
    refine lv_icmp_ge (tgt := 24) hx hb dd_M_alike_17 (by decide) (fun c_26 => ?_) (fun c_26 => ?_)
    · have hF := jv_t c_26 hF
      refine lv_iconst (v := 0) hx hb dd_M_alike_24 (by decide) ?_
      refine lv_istore_n (lv' := [(3, .int 0), (0, .ref h0), (1, .int x1), (2, .int x2)]) hx hb dd_M_alike_25 rfl hl (by decide) rfl (fun ls hl => ?_)
      refine lv_iload_n hx hb dd_M_alike_26 rfl (lv_at hl 2 rfl) ?_
      refine lv_istore (lv' := [(4, .int x1), (3, .int 0), (0, .ref h0), (1, .int x1), (2, .int x2)]) hx hb dd_M_alike_27 hl (by decide) rfl (fun ls hl => ?_)
      refine lv_iload_n hx hb dd_M_alike_29 rfl (lv_at hl 4 rfl) ?_
      refine lv_istore (lv' := [(5, .int x2), (4, .int x1), (3, .int 0), (0, .ref h0), (1, .int x1), (2, .int x2)]) hx hb dd_M_alike_30 hl (by decide) rfl (fun ls hl => ?_)
      exact lp32 4000 0 x1 x2 hF ls (lv_sub hl [3, 2, 1, 0] rfl)
    · have hF := jv_f c_26 hF
      refine lv_iconst (v := 1) hx hb dd_M_alike_20 (by decide) ?_
      refine lv_goto (tgt := 25) hx hb dd_M_alike_21 (by decide) ?_
      refine lv_istore_n (lv' := [(3, .int 1), (0, .ref h0), (1, .int x1), (2, .int x2)]) hx hb dd_M_alike_25 rfl hl (by decide) rfl (fun ls hl => ?_)
      refine lv_iload_n hx hb dd_M_alike_26 rfl (lv_at hl 2 rfl) ?_
      refine lv_istore (lv' := [(4, .int x1), (3, .int 1), (0, .ref h0), (1, .int x1), (2, .int x2)]) hx hb dd_M_alike_27 hl (by decide) rfl (fun ls hl => ?_)
      refine lv_iload_n hx hb dd_M_alike_29 rfl (lv_at hl 4 rfl) ?_
      refine lv_istore (lv' := [(5, .int x2), (4, .int x1), (3, .int 1), (0, .ref h0), (1, .int x1), (2, .int x2)]) hx hb dd_M_alike_30 hl (by decide) rfl (fun ls hl => ?_)
      exact lp32 4000 1 x1 x2 hF ls (lv_sub hl [3, 2, 1, 0] rfl)
set_option maxHeartbeats 40000000 in
set_option maxRecDepth 100000 in
theorem c_M_attempts (l : Launch) (dC : Nat → ClassId) (dI : Nat → Nat → Nat) (cI cL cC cZ : ClassId) (h0 h1 h2 h3 h4 h5 h6 h7 h8 h9 : Nat) (sz : Nat) (bg : Int32) (ln : Int32) (mt : Int32) (en : Int32) (sx : Int32) (pl : Int32) (ov : Int32) (tk : Int32) (na : Nat → Int32) (cu : Nat → Int32) (pa : Nat → Int32) (re : Nat → Int32) (cl : Nat → Int32) (si : Nat → Int32) (lt : Nat → Int32) (pg : Nat → Int32) (rd : Nat → Int32) (x1 : Int32) (out : Int32) (hF : fn_M_attempts cu pa re si lt x1 = some out) : Met l yy_M_attempts ws_M_attempts { frames := 2, cells := 0, slots := 0, locals := 49 } (mP_ (dC, dI) (tk_ cI cL cC cZ) [(h0, .inr (6, [.int bg, .ref h1, .ref h2, .ref h3, .ref h4, .ref h5, .ref h6, .ref h7, .int ln, .ref h8, .int mt, .int en, .int sx, .int pl, .int ov, .int tk, .ref h9])), (h1, .inl (cC, 6, .inl na)), (h2, .inl (cI, 2, .inl cu)), (h3, .inl (cI, 48, .inl pa)), (h4, .inl (cI, 48, .inl re)), (h5, .inl (cZ, 48, .inl cl)), (h6, .inl (cI, 48, .inl si)), (h7, .inl (cC, 288, .inl lt)), (h8, .inl (cC, 3000, .inl pg)), (h9, .inl (cC, 6, .inl rd))] sz [.ref h0, .int x1]) (vp_Si (fun r => r = out)) 0 0 (fun _ => False) := by
  refine Met.ofW (cc := cc_M_attempts) (maxL := 4) (ret := (some .int)) (by decide) rfl ?_
  intro p e s m args below meth c s₁ B hml hv
  obtain ⟨hargs, hsz, hP, hK, hD0⟩ := hv
  have hx := B.exec
  have hb := B.bytes
  have hr := B.returns
  have hts := atoms_spec (ws := ws_M_attempts) B.pre
  have ht : ∀ w ∈ TB_, w.before args s = true := fun w h => hts w (List.mem_cons_of_mem _ h)
  have hown : s.vm.findClass cn_M = some m.cls := findClass_of_methodNamed B.named
  have hlocks := B.notSynchronized
  subst hsz
  have hD := hD0.self (sz := s.heap.size)
  generalize hAe : va_A [(h0, .inr (6, [.int bg, .ref h1, .ref h2, .ref h3, .ref h4, .ref h5, .ref h6, .ref h7, .int ln, .ref h8, .int mt, .int en, .int sx, .int pl, .int ov, .int tk, .ref h9])), (h1, .inl (cC, 6, .inl na)), (h2, .inl (cI, 2, .inl cu)), (h3, .inl (cI, 48, .inl pa)), (h4, .inl (cI, 48, .inl re)), (h5, .inl (cZ, 48, .inl cl)), (h6, .inl (cI, 48, .inl si)), (h7, .inl (cC, 288, .inl lt)), (h8, .inl (cC, 3000, .inl pg)), (h9, .inl (cC, 6, .inl rd))] s.heap.size = A at hD
  have hA : ∀ q : Nat, s.heap.size ≤ q → A q := fun q h => by rw [← hAe]; exact Or.inr h
  have hS : va_S A s.heap s.heap [] := va_S.rf
  have hP : va_P (dC, dI) vwCl [(h0, .inr (6, [.int bg, .ref h1, .ref h2, .ref h3, .ref h4, .ref h5, .ref h6, .ref h7, .int ln, .ref h8, .int mt, .int en, .int sx, .int pl, .int ov, .int tk, .ref h9])), (h1, .inl (cC, 6, .inl na)), (h2, .inl (cI, 2, .inl cu)), (h3, .inl (cI, 48, .inl pa)), (h4, .inl (cI, 48, .inl re)), (h5, .inl (cZ, 48, .inl cl)), (h6, .inl (cI, 48, .inl si)), (h7, .inl (cC, 288, .inl lt)), (h8, .inl (cC, 3000, .inl pg)), (h9, .inl (cC, 6, .inl rd))] s.heap := hP
  have hl := lv_entry [.ref h0, .int x1] (n := 4) (Nat.le_of_ble_eq_true rfl)
  have he : entryFrame m args 4 = _ := (congrArg (fun a => entryFrame m a 4) hargs).trans (lg_entry_eq m [.ref h0, .int x1] 4)
  rw [he]
  generalize (lg_sl [.ref h0, .int x1] ++ List.replicate (4 - (lg_sl [.ref h0, .int x1]).length) Slot.unset).toArray = ls at hl ⊢
  have hl : lv_has ls 4 [(0, .ref h0), (1, .int x1)] := hl
  generalize hQ : MQ below _ args s _ _ _ = Q
  have lp24 : ∀ (n24 : Nat), ∀ (x1 : Int32) (x2 : Int32) (x3 : Int32), fl_M_attempts_24 cu pa re si lt  n24 (x1, x2, x3) = some out → ∀ ls : Array Slot, lv_has ls 4 [(0, .ref h0), (1, .int x1), (2, .int x2), (3, .int x3)] → W p l e (headSpec ws_M_attempts { frames := 2, cells := 0, slots := 0, locals := 49 }).room s m args below meth c s.heap [] 0 0 Q (F0 m 24 ls []) := by
    intro n24
    induction n24 with
    | zero =>
      intro x1 x2 x3 hF
      exact (jv_no hF).elim
    | succ n24 ih24 =>
      intro x1 x2 x3 hF ls hl
      have hF : fb_M_attempts_24 cu pa re si lt  (fl_M_attempts_24 cu pa re si lt  n24) x1 x2 x3 = some out := hF
      unfold fb_M_attempts_24 at hF
      refine lv_iload_n hx hb dd_M_attempts_24 rfl (lv_at hl 3 rfl) ?_
      refine lv_aload_n hx hb dd_M_attempts_25 rfl (lv_at hl 0 rfl) ?_
      refine va_get (D := (dC, dI)) (ci := 6) (v := .ref h2) (C := cn_M) (T := tt_M) (N := 17) hx hb ht in_M hown hK hP 0 rfl rfl 2 (by decide) (ht _ tw_3_43) (fun _ h9 => h9) rfl dd_M_attempts_26 ?_
      refine lv_iconst (v := 0) hx hb dd_M_attempts_29 (by decide) ?_
      obtain ⟨g_7, hF⟩ := jv_gi hF
      refine va_iald hx hb hK hP 2 0 rfl rfl (jv_in g_7) dd_M_attempts_30 ?_
      refine lv_icmp_ge (tgt := 57) hx hb dd_M_attempts_31 (by decide) (fun c_8 => ?_) (fun c_8 => ?_)
      · have hF := jv_t c_8 hF
        refine lv_iload_n hx hb dd_M_attempts_57 rfl (lv_at hl 2 rfl) ?_
        subst hQ
        exact W.iret (v := x2) hx hb hr (fun t ht hW => ⟨x2, rfl, (Option.some.inj hF), ht⟩) (fun _ h => by cases h) dd_M_attempts_58
      · have hF := jv_f c_8 hF
        refine lv_iload_n hx hb dd_M_attempts_34 rfl (lv_at hl 2 rfl) ?_
        refine lv_aload_n hx hb dd_M_attempts_35 rfl (lv_at hl 0 rfl) ?_
        refine lv_iload_n hx hb dd_M_attempts_36 rfl (lv_at hl 3 rfl) ?_
        refine lv_iload_n hx hb dd_M_attempts_37 rfl (lv_at hl 1 rfl) ?_
        obtain ⟨o_38, ho_38, hF⟩ := jv_bi hF
        refine jv_ci (va_runV (C := cn_M) (As := [.int x3, .int x1]) (rest := [.int x2]) ⟨hx, hb, hml, hown, ht⟩ (c_M_alike l dC dI cI cL cC cZ h0 h1 h2 h3 h4 h5 h6 h7 h8 h9 s.heap.size bg ln mt en sx pl ov tk na cu pa re cl si lt pg rd x3 x1 _ ho_38) (cwV 2 ht (gi_V tw_4_64 tw_4_66 tw_p_44 tw_1_4 tw_4_67) rfl rfl rfl (by decide +kernel) ⟨Nat.le_of_ble_eq_true rfl, Nat.le_of_ble_eq_true rfl⟩) (jv_pv hK hP hD [0, 1, 2, 3, 4, 5, 6, 7, 8, 9] rfl (by decide) rfl (va_recv hK hP (ci := 6) (q0 := 0) rfl rfl)) rfl rfl hl.1 rfl (lv_room (Nat.le_of_ble_eq_true rfl)) dd_M_attempts_38 ⟨Nat.le_of_ble_eq_true rfl, Nat.le_of_ble_eq_true rfl⟩) ?_
        refine lv_if_eq (tgt := 48) hx hb dd_M_attempts_41 (by decide) (fun c_9 => ?_) (fun c_9 => ?_)
        · have hF := jv_t c_9 hF
          refine lv_iconst (v := 0) hx hb dd_M_attempts_48 (by decide) ?_
          refine lv_iadd hx hb dd_M_attempts_49 ?_
          refine lv_istore_n (lv' := [(2, .int (x2 + 0)), (0, .ref h0), (1, .int x1), (3, .int x3)]) hx hb dd_M_attempts_50 rfl hl (by decide) rfl (fun ls hl => ?_)
          refine lv_iinc (v := x3 + 1) (lv' := [(3, .int (x3 + 1)), (2, .int (x2 + 0)), (0, .ref h0), (1, .int x1)]) hx hb dd_M_attempts_51 hl (k := 3) rfl rfl (by decide) rfl (fun ls hl => ?_)
          refine lv_goto (tgt := 24) hx hb dd_M_attempts_54 (by decide) ?_
          exact ih24 x1 (x2 + 0) (x3 + 1) hF ls (lv_sub hl [2, 3, 1, 0] rfl)
        · have hF := jv_f c_9 hF
          refine lv_iconst (v := 1) hx hb dd_M_attempts_44 (by decide) ?_
          refine lv_goto (tgt := 49) hx hb dd_M_attempts_45 (by decide) ?_
          refine lv_iadd hx hb dd_M_attempts_49 ?_
          refine lv_istore_n (lv' := [(2, .int (x2 + 1)), (0, .ref h0), (1, .int x1), (3, .int x3)]) hx hb dd_M_attempts_50 rfl hl (by decide) rfl (fun ls hl => ?_)
          refine lv_iinc (v := x3 + 1) (lv' := [(3, .int (x3 + 1)), (2, .int (x2 + 1)), (0, .ref h0), (1, .int x1)]) hx hb dd_M_attempts_51 hl (k := 3) rfl rfl (by decide) rfl (fun ls hl => ?_)
          refine lv_goto (tgt := 24) hx hb dd_M_attempts_54 (by decide) ?_
          exact ih24 x1 (x2 + 1) (x3 + 1) hF ls (lv_sub hl [2, 3, 1, 0] rfl)
  unfold fn_M_attempts at hF
  refine lv_aload_n hx hb dd_M_attempts_0 rfl (lv_at hl 0 rfl) ?_
  refine lv_iload_n hx hb dd_M_attempts_1 rfl (lv_at hl 1 rfl) ?_
  obtain ⟨o_2, ho_2, hF⟩ := jv_bi hF
  refine jv_ci (va_runV (C := cn_M) (As := [.int x1]) (rest := []) ⟨hx, hb, hml, hown, ht⟩ (c_M_node l dC dI cI cL cC cZ h0 h1 h2 h3 h4 h5 h6 h7 h8 h9 s.heap.size bg ln mt en sx pl ov tk na cu pa re cl si lt pg rd x1 _ ho_2) (cwV 1 ht (gi_V tw_3_138 tw_3_140 tw_p_18 tw_1_4 tw_3_141) rfl rfl rfl (by decide +kernel) ⟨Nat.le_of_ble_eq_true rfl, Nat.le_of_ble_eq_true rfl⟩) (jv_pv hK hP hD [0, 1, 2, 3, 4, 5, 6, 7, 8, 9] rfl (by decide) rfl (va_recv hK hP (ci := 6) (q0 := 0) rfl rfl)) rfl rfl hl.1 rfl (lv_room (Nat.le_of_ble_eq_true rfl)) dd_M_attempts_2 ⟨Nat.le_of_ble_eq_true rfl, Nat.le_of_ble_eq_true rfl⟩) ?_
  refine lv_if_eq (tgt := 18) hx hb dd_M_attempts_5 (by decide) (fun c_10 => ?_) (fun c_10 => ?_)
  · have hF := jv_t c_10 hF
    refine lv_iconst (v := (-1)) hx hb dd_M_attempts_18 (by decide) ?_
    subst hQ
    exact W.iret (v := (-1)) hx hb hr (fun t ht hW => ⟨(-1), rfl, (Option.some.inj hF), ht⟩) (fun _ h => by cases h) dd_M_attempts_19
  · have hF := jv_f c_10 hF
    refine lv_aload_n hx hb dd_M_attempts_8 rfl (lv_at hl 0 rfl) ?_
    refine va_get (D := (dC, dI)) (ci := 6) (v := .ref h4) (C := cn_M) (T := tt_M) (N := 17) hx hb ht in_M hown hK hP 0 rfl rfl 4 (by decide) (ht _ tw_3_45) (fun _ h9 => h9) rfl dd_M_attempts_9 ?_
    refine lv_iload_n hx hb dd_M_attempts_12 rfl (lv_at hl 1 rfl) ?_
    obtain ⟨g_11, hF⟩ := jv_gi hF
    refine va_iald hx hb hK hP 4 0 rfl rfl (jv_in g_11) dd_M_attempts_13 ?_
    refine lv_iconst (v := 4) hx hb dd_M_attempts_14 (by decide) ?_
    refine lv_icmp_ne (tgt := 20) hx hb dd_M_attempts_15 (by decide) (fun c_12 => ?_) (fun c_12 => ?_)
    · have hF := jv_f c_12 hF
      refine lv_iconst (v := 0) hx hb dd_M_attempts_20 (by decide) ?_
      refine lv_istore_n (lv' := [(2, .int 0), (0, .ref h0), (1, .int x1)]) hx hb dd_M_attempts_21 rfl hl (by decide) rfl (fun ls hl => ?_)
      refine lv_iconst (v := 0) hx hb dd_M_attempts_22 (by decide) ?_
      refine lv_istore_n (lv' := [(3, .int 0), (2, .int 0), (0, .ref h0), (1, .int x1)]) hx hb dd_M_attempts_23 rfl hl (by decide) rfl (fun ls hl => ?_)
      exact lp24 4000 x1 0 0 hF ls (lv_sub hl [2, 3, 1, 0] rfl)
    · have hF := jv_t c_12 hF
      refine lv_iconst (v := (-1)) hx hb dd_M_attempts_18 (by decide) ?_
      subst hQ
      exact W.iret (v := (-1)) hx hb hr (fun t ht hW => ⟨(-1), rfl, (Option.some.inj hF), ht⟩) (fun _ h => by cases h) dd_M_attempts_19
set_option maxHeartbeats 40000000 in
set_option maxRecDepth 100000 in
theorem c_M_flaky (l : Launch) (dC : Nat → ClassId) (dI : Nat → Nat → Nat) (cI cL cC cZ : ClassId) (h0 h1 h2 h3 h4 h5 h6 h7 h8 h9 : Nat) (sz : Nat) (bg : Int32) (ln : Int32) (mt : Int32) (en : Int32) (sx : Int32) (pl : Int32) (ov : Int32) (tk : Int32) (na : Nat → Int32) (cu : Nat → Int32) (pa : Nat → Int32) (re : Nat → Int32) (cl : Nat → Int32) (si : Nat → Int32) (lt : Nat → Int32) (pg : Nat → Int32) (rd : Nat → Int32) (x1 : Int32) (out : Int32) (hF : fn_M_flaky cu pa re si lt x1 = some out) : Met l yy_M_flaky ws_M_flaky { frames := 2, cells := 0, slots := 0, locals := 49 } (mP_ (dC, dI) (tk_ cI cL cC cZ) [(h0, .inr (6, [.int bg, .ref h1, .ref h2, .ref h3, .ref h4, .ref h5, .ref h6, .ref h7, .int ln, .ref h8, .int mt, .int en, .int sx, .int pl, .int ov, .int tk, .ref h9])), (h1, .inl (cC, 6, .inl na)), (h2, .inl (cI, 2, .inl cu)), (h3, .inl (cI, 48, .inl pa)), (h4, .inl (cI, 48, .inl re)), (h5, .inl (cZ, 48, .inl cl)), (h6, .inl (cI, 48, .inl si)), (h7, .inl (cC, 288, .inl lt)), (h8, .inl (cC, 3000, .inl pg)), (h9, .inl (cC, 6, .inl rd))] sz [.ref h0, .int x1]) (vp_Si (fun r => r = out)) 0 0 (fun _ => False) := by
  refine Met.ofW (cc := cc_M_flaky) (maxL := 6) (ret := (some .boolean)) (by decide) rfl ?_
  intro p e s m args below meth c s₁ B hml hv
  obtain ⟨hargs, hsz, hP, hK, hD0⟩ := hv
  have hx := B.exec
  have hb := B.bytes
  have hr := B.returns
  have hts := atoms_spec (ws := ws_M_flaky) B.pre
  have ht : ∀ w ∈ TB_, w.before args s = true := fun w h => hts w (List.mem_cons_of_mem _ h)
  have hown : s.vm.findClass cn_M = some m.cls := findClass_of_methodNamed B.named
  have hlocks := B.notSynchronized
  subst hsz
  have hD := hD0.self (sz := s.heap.size)
  generalize hAe : va_A [(h0, .inr (6, [.int bg, .ref h1, .ref h2, .ref h3, .ref h4, .ref h5, .ref h6, .ref h7, .int ln, .ref h8, .int mt, .int en, .int sx, .int pl, .int ov, .int tk, .ref h9])), (h1, .inl (cC, 6, .inl na)), (h2, .inl (cI, 2, .inl cu)), (h3, .inl (cI, 48, .inl pa)), (h4, .inl (cI, 48, .inl re)), (h5, .inl (cZ, 48, .inl cl)), (h6, .inl (cI, 48, .inl si)), (h7, .inl (cC, 288, .inl lt)), (h8, .inl (cC, 3000, .inl pg)), (h9, .inl (cC, 6, .inl rd))] s.heap.size = A at hD
  have hA : ∀ q : Nat, s.heap.size ≤ q → A q := fun q h => by rw [← hAe]; exact Or.inr h
  have hS : va_S A s.heap s.heap [] := va_S.rf
  have hP : va_P (dC, dI) vwCl [(h0, .inr (6, [.int bg, .ref h1, .ref h2, .ref h3, .ref h4, .ref h5, .ref h6, .ref h7, .int ln, .ref h8, .int mt, .int en, .int sx, .int pl, .int ov, .int tk, .ref h9])), (h1, .inl (cC, 6, .inl na)), (h2, .inl (cI, 2, .inl cu)), (h3, .inl (cI, 48, .inl pa)), (h4, .inl (cI, 48, .inl re)), (h5, .inl (cZ, 48, .inl cl)), (h6, .inl (cI, 48, .inl si)), (h7, .inl (cC, 288, .inl lt)), (h8, .inl (cC, 3000, .inl pg)), (h9, .inl (cC, 6, .inl rd))] s.heap := hP
  have hl := lv_entry [.ref h0, .int x1] (n := 6) (Nat.le_of_ble_eq_true rfl)
  have he : entryFrame m args 6 = _ := (congrArg (fun a => entryFrame m a 6) hargs).trans (lg_entry_eq m [.ref h0, .int x1] 6)
  rw [he]
  generalize (lg_sl [.ref h0, .int x1] ++ List.replicate (6 - (lg_sl [.ref h0, .int x1]).length) Slot.unset).toArray = ls at hl ⊢
  have hl : lv_has ls 6 [(0, .ref h0), (1, .int x1)] := hl
  generalize hQ : MQ below _ args s _ _ _ = Q
  have lp27 : ∀ (n27 : Nat), ∀ (x1 : Int32) (x2 : Int32) (x3 : Int32) (x4 : Int32), fl_M_flaky_27 cu pa re si lt  n27 (x1, x2, x3, x4) = some out → ∀ ls : Array Slot, lv_has ls 6 [(0, .ref h0), (1, .int x1), (2, .int x2), (3, .int x3), (4, .int x4)] → W p l e (headSpec ws_M_flaky { frames := 2, cells := 0, slots := 0, locals := 49 }).room s m args below meth c s.heap [] 0 0 Q (F0 m 27 ls []) := by
    intro n27
    induction n27 with
    | zero =>
      intro x1 x2 x3 x4 hF
      exact (jv_no hF).elim
    | succ n27 ih27 =>
      have bl75 : ∀ (x1 : Int32) (x2 : Int32) (x4 : Int32) (x5 : Int32) (y0 : Int32), fb_M_flaky_75 cu pa re si lt (fl_M_flaky_27 cu pa re si lt  n27) x1 x2 x4 x5 y0 = some out → ∀ ls : Array Slot, lv_has ls 6 [(0, .ref h0), (1, .int x1), (2, .int x2), (4, .int x4), (5, .int x5)] → W p l e (headSpec ws_M_flaky { frames := 2, cells := 0, slots := 0, locals := 49 }).room s m args below meth c s.heap [] 0 0 Q (F0 m 75 ls [.int y0]) := by
        intro x1 x2 x4 x5 y0 hF ls hl
        unfold fb_M_flaky_75 at hF
        refine lv_istore_n (lv' := [(3, .int y0), (0, .ref h0), (1, .int x1), (2, .int x2), (4, .int x4), (5, .int x5)]) hx hb dd_M_flaky_75 rfl hl (by decide) rfl (fun ls hl => ?_)
        refine lv_iload_n hx hb dd_M_flaky_76 rfl (lv_at hl 3 rfl) ?_
        refine lv_if_ne (tgt := 96) hx hb dd_M_flaky_77 (by decide) (fun c_15 => ?_) (fun c_15 => ?_)
        · have hF := jv_f c_15 hF
          refine lv_iconst (v := 1) hx hb dd_M_flaky_96 (by decide) ?_
          refine lv_goto (tgt := 101) hx hb dd_M_flaky_97 (by decide) ?_
          refine lv_istore_n (lv' := [(2, .int 1), (3, .int y0), (0, .ref h0), (1, .int x1), (4, .int x4), (5, .int x5)]) hx hb dd_M_flaky_101 rfl hl (by decide) rfl (fun ls hl => ?_)
          refine lv_iinc (v := x4 + 1) (lv' := [(4, .int (x4 + 1)), (2, .int 1), (3, .int y0), (0, .ref h0), (1, .int x1), (5, .int x5)]) hx hb dd_M_flaky_102 hl (k := 4) rfl rfl (by decide) rfl (fun ls hl => ?_)
          refine lv_goto (tgt := 27) hx hb dd_M_flaky_105 (by decide) ?_
          exact ih27 x1 1 y0 (x4 + 1) hF ls (lv_sub hl [3, 4, 1, 2, 0] rfl)
        · have hF := jv_t c_15 hF
          refine lv_iload hx hb dd_M_flaky_80 (lv_at hl 5 rfl) ?_
          refine lv_if_eq (tgt := 100) hx hb dd_M_flaky_82 (by decide) (fun c_16 => ?_) (fun c_16 => ?_)
          · have hF := jv_t c_16 hF
            refine lv_iconst (v := 0) hx hb dd_M_flaky_100 (by decide) ?_
            refine lv_istore_n (lv' := [(2, .int 0), (3, .int y0), (0, .ref h0), (1, .int x1), (4, .int x4), (5, .int x5)]) hx hb dd_M_flaky_101 rfl hl (by decide) rfl (fun ls hl => ?_)
            refine lv_iinc (v := x4 + 1) (lv' := [(4, .int (x4 + 1)), (2, .int 0), (3, .int y0), (0, .ref h0), (1, .int x1), (5, .int x5)]) hx hb dd_M_flaky_102 hl (k := 4) rfl rfl (by decide) rfl (fun ls hl => ?_)
            refine lv_goto (tgt := 27) hx hb dd_M_flaky_105 (by decide) ?_
            exact ih27 x1 0 y0 (x4 + 1) hF ls (lv_sub hl [3, 4, 1, 2, 0] rfl)
          · have hF := jv_f c_16 hF
            refine lv_aload_n hx hb dd_M_flaky_85 rfl (lv_at hl 1 rfl) ?_
            refine va_get (D := (dC, dI)) (ci := 6) (v := .ref h4) (C := cn_M) (T := tt_M) (N := 17) hx hb ht in_M hown hK hP 0 rfl rfl 4 (by decide) (ht _ tw_3_45) (fun _ h9 => h9) rfl dd_M_flaky_86 ?_
            refine lv_iload hx hb dd_M_flaky_89 (lv_at hl 4 rfl) ?_
            obtain ⟨g_17, hF⟩ := jv_gi hF
            refine va_iald hx hb hK hP 4 0 rfl rfl (jv_in g_17) dd_M_flaky_91 ?_
            refine lv_iconst (v := 1) hx hb dd_M_flaky_92 (by decide) ?_
            refine lv_icmp_ne (tgt := 100) hx hb dd_M_flaky_93 (by decide) (fun c_18 => ?_) (fun c_18 => ?_)
            · have hF := jv_f c_18 hF
              refine lv_iconst (v := 0) hx hb dd_M_flaky_100 (by decide) ?_
              refine lv_istore_n (lv' := [(2, .int 0), (3, .int y0), (0, .ref h0), (1, .int x1), (4, .int x4), (5, .int x5)]) hx hb dd_M_flaky_101 rfl hl (by decide) rfl (fun ls hl => ?_)
              refine lv_iinc (v := x4 + 1) (lv' := [(4, .int (x4 + 1)), (2, .int 0), (3, .int y0), (0, .ref h0), (1, .int x1), (5, .int x5)]) hx hb dd_M_flaky_102 hl (k := 4) rfl rfl (by decide) rfl (fun ls hl => ?_)
              refine lv_goto (tgt := 27) hx hb dd_M_flaky_105 (by decide) ?_
              exact ih27 x1 0 y0 (x4 + 1) hF ls (lv_sub hl [3, 4, 1, 2, 0] rfl)
            · have hF := jv_t c_18 hF
              refine lv_iconst (v := 1) hx hb dd_M_flaky_96 (by decide) ?_
              refine lv_goto (tgt := 101) hx hb dd_M_flaky_97 (by decide) ?_
              refine lv_istore_n (lv' := [(2, .int 1), (3, .int y0), (0, .ref h0), (1, .int x1), (4, .int x4), (5, .int x5)]) hx hb dd_M_flaky_101 rfl hl (by decide) rfl (fun ls hl => ?_)
              refine lv_iinc (v := x4 + 1) (lv' := [(4, .int (x4 + 1)), (2, .int 1), (3, .int y0), (0, .ref h0), (1, .int x1), (5, .int x5)]) hx hb dd_M_flaky_102 hl (k := 4) rfl rfl (by decide) rfl (fun ls hl => ?_)
              refine lv_goto (tgt := 27) hx hb dd_M_flaky_105 (by decide) ?_
              exact ih27 x1 1 y0 (x4 + 1) hF ls (lv_sub hl [3, 4, 1, 2, 0] rfl)
      intro x1 x2 x3 x4 hF ls hl
      have hF : fb_M_flaky_27 cu pa re si lt  (fl_M_flaky_27 cu pa re si lt  n27) x1 x2 x3 x4 = some out := hF
      unfold fb_M_flaky_27 at hF
      refine lv_iload hx hb dd_M_flaky_27 (lv_at hl 4 rfl) ?_
      refine lv_aload_n hx hb dd_M_flaky_29 rfl (lv_at hl 0 rfl) ?_
      refine va_get (D := (dC, dI)) (ci := 6) (v := .ref h2) (C := cn_M) (T := tt_M) (N := 17) hx hb ht in_M hown hK hP 0 rfl rfl 2 (by decide) (ht _ tw_3_43) (fun _ h9 => h9) rfl dd_M_flaky_30 ?_
      refine lv_iconst (v := 0) hx hb dd_M_flaky_33 (by decide) ?_
      obtain ⟨g_19, hF⟩ := jv_gi hF
      refine va_iald hx hb hK hP 2 0 rfl rfl (jv_in g_19) dd_M_flaky_34 ?_
      refine lv_icmp_ge (tgt := 108) hx hb dd_M_flaky_35 (by decide) (fun c_20 => ?_) (fun c_20 => ?_)
      · have hF := jv_t c_20 hF
        refine lv_iload_n hx hb dd_M_flaky_108 rfl (lv_at hl 3 rfl) ?_
        obtain ⟨z_21, hF⟩ := jv_gi hF
        subst hQ
        exact W.zret (v := x3) hx hb hr (jv_zn z_21).1 (fun t ht hW => ⟨x3, rfl, (Option.some.inj hF), ht⟩) (fun _ h => by cases h) dd_M_flaky_109
      · have hF := jv_f c_20 hF
        refine lv_aload_n hx hb dd_M_flaky_38 rfl (lv_at hl 0 rfl) ?_
        refine lv_iload hx hb dd_M_flaky_39 (lv_at hl 4 rfl) ?_
        refine lv_iload_n hx hb dd_M_flaky_41 rfl (lv_at hl 1 rfl) ?_
        obtain ⟨o_42, ho_42, hF⟩ := jv_bi hF
        refine jv_ci (va_runV (C := cn_M) (As := [.int x4, .int x1]) (rest := []) ⟨hx, hb, hml, hown, ht⟩ (c_M_alike l dC dI cI cL cC cZ h0 h1 h2 h3 h4 h5 h6 h7 h8 h9 s.heap.size bg ln mt en sx pl ov tk na cu pa re cl si lt pg rd x4 x1 _ ho_42) (cwV 2 ht (gi_V tw_4_64 tw_4_66 tw_p_44 tw_1_4 tw_4_67) rfl rfl rfl (by decide +kernel) ⟨Nat.le_of_ble_eq_true rfl, Nat.le_of_ble_eq_true rfl⟩) (jv_pv hK hP hD [0, 1, 2, 3, 4, 5, 6, 7, 8, 9] rfl (by decide) rfl (va_recv hK hP (ci := 6) (q0 := 0) rfl rfl)) rfl rfl hl.1 rfl (lv_room (Nat.le_of_ble_eq_true rfl)) dd_M_flaky_42 ⟨Nat.le_of_ble_eq_true rfl, Nat.le_of_ble_eq_true rfl⟩) ?_
        refine lv_istore (lv' := [(5, .int o_42), (0, .ref h0), (1, .int x1), (2, .int x2), (3, .int x3), (4, .int x4)]) hx hb dd_M_flaky_45 hl (by decide) rfl (fun ls hl => ?_)
        refine lv_iload_n hx hb dd_M_flaky_47 rfl (lv_at hl 4 rfl) ?_
        refine lv_if_ne (tgt := 70) hx hb dd_M_flaky_48 (by decide) (fun c_22 => ?_) (fun c_22 => ?_)
        · have hF := jv_f c_22 hF
          refine lv_iconst (v := 1) hx hb dd_M_flaky_70 (by decide) ?_
          refine lv_goto (tgt := 75) hx hb dd_M_flaky_71 (by decide) ?_
          exact bl75 x1 x2 x4 o_42 1 hF ls (lv_sub hl [1, 2, 3, 5, 0] rfl)
        · have hF := jv_t c_22 hF
          refine lv_iload hx hb dd_M_flaky_51 (lv_at hl 0 rfl) ?_
          refine lv_if_eq (tgt := 74) hx hb dd_M_flaky_53 (by decide) (fun c_23 => ?_) (fun c_23 => ?_)
          · have hF := jv_t c_23 hF
            refine lv_iconst (v := 0) hx hb dd_M_flaky_74 (by decide) ?_
            exact bl75 x1 x2 x4 o_42 0 hF ls (lv_sub hl [1, 2, 3, 5, 0] rfl)
          · have hF := jv_f c_23 hF
            refine lv_iload_n hx hb dd_M_flaky_56 rfl (lv_at hl 3 rfl) ?_
            refine lv_if_eq (tgt := 74) hx hb dd_M_flaky_57 (by decide) (fun c_24 => ?_) (fun c_24 => ?_)
            · have hF := jv_t c_24 hF
              refine lv_iconst (v := 0) hx hb dd_M_flaky_74 (by decide) ?_
              exact bl75 x1 x2 x4 o_42 0 hF ls (lv_sub hl [1, 2, 3, 5, 0] rfl)
            · have hF := jv_f c_24 hF
              refine lv_aload_n hx hb dd_M_flaky_60 rfl (lv_at hl 1 rfl) ?_
              refine va_get (D := (dC, dI)) (ci := 6) (v := .ref h4) (C := cn_M) (T := tt_M) (N := 17) hx hb ht in_M hown hK hP 0 rfl rfl 4 (by decide) (ht _ tw_3_45) (fun _ h9 => h9) rfl dd_M_flaky_61 ?_
              refine lv_iload hx hb dd_M_flaky_64 (lv_at hl 5 rfl) ?_
              obtain ⟨g_25, hF⟩ := jv_gi hF
              refine va_iald hx hb hK hP 4 0 rfl rfl (jv_in g_25) dd_M_flaky_66 ?_
              refine lv_if_ne (tgt := 74) hx hb dd_M_flaky_67 (by decide) (fun c_26 => ?_) (fun c_26 => ?_)
              · have hF := jv_f c_26 hF
                refine lv_iconst (v := 0) hx hb dd_M_flaky_74 (by decide) ?_
                exact bl75 x1 x2 x4 o_42 0 hF ls (lv_sub hl [1, 2, 3, 5, 0] rfl)
              · have hF := jv_t c_26 hF
                refine lv_iconst (v := 1) hx hb dd_M_flaky_70 (by decide) ?_
                refine lv_goto (tgt := 75) hx hb dd_M_flaky_71 (by decide) ?_
                exact bl75 x1 x2 x4 o_42 1 hF ls (lv_sub hl [1, 2, 3, 5, 0] rfl)
  unfold fn_M_flaky at hF
  refine lv_aload_n hx hb dd_M_flaky_0 rfl (lv_at hl 0 rfl) ?_
  refine lv_iload_n hx hb dd_M_flaky_1 rfl (lv_at hl 1 rfl) ?_
  obtain ⟨o_2, ho_2, hF⟩ := jv_bi hF
  refine jv_ci (va_runV (C := cn_M) (As := [.int x1]) (rest := []) ⟨hx, hb, hml, hown, ht⟩ (c_M_node l dC dI cI cL cC cZ h0 h1 h2 h3 h4 h5 h6 h7 h8 h9 s.heap.size bg ln mt en sx pl ov tk na cu pa re cl si lt pg rd x1 _ ho_2) (cwV 1 ht (gi_V tw_3_138 tw_3_140 tw_p_18 tw_1_4 tw_3_141) rfl rfl rfl (by decide +kernel) ⟨Nat.le_of_ble_eq_true rfl, Nat.le_of_ble_eq_true rfl⟩) (jv_pv hK hP hD [0, 1, 2, 3, 4, 5, 6, 7, 8, 9] rfl (by decide) rfl (va_recv hK hP (ci := 6) (q0 := 0) rfl rfl)) rfl rfl hl.1 rfl (lv_room (Nat.le_of_ble_eq_true rfl)) dd_M_flaky_2 ⟨Nat.le_of_ble_eq_true rfl, Nat.le_of_ble_eq_true rfl⟩) ?_
  refine lv_if_eq (tgt := 18) hx hb dd_M_flaky_5 (by decide) (fun c_27 => ?_) (fun c_27 => ?_)
  · have hF := jv_t c_27 hF
    refine lv_iconst (v := 0) hx hb dd_M_flaky_18 (by decide) ?_
    subst hQ
    exact W.zret (v := 0) hx hb hr rfl (fun t ht hW => ⟨0, rfl, (Option.some.inj hF), ht⟩) (fun _ h => by cases h) dd_M_flaky_19
  · have hF := jv_f c_27 hF
    refine lv_aload_n hx hb dd_M_flaky_8 rfl (lv_at hl 0 rfl) ?_
    refine va_get (D := (dC, dI)) (ci := 6) (v := .ref h4) (C := cn_M) (T := tt_M) (N := 17) hx hb ht in_M hown hK hP 0 rfl rfl 4 (by decide) (ht _ tw_3_45) (fun _ h9 => h9) rfl dd_M_flaky_9 ?_
    refine lv_iload_n hx hb dd_M_flaky_12 rfl (lv_at hl 1 rfl) ?_
    obtain ⟨g_28, hF⟩ := jv_gi hF
    refine va_iald hx hb hK hP 4 0 rfl rfl (jv_in g_28) dd_M_flaky_13 ?_
    refine lv_iconst (v := 4) hx hb dd_M_flaky_14 (by decide) ?_
    refine lv_icmp_ne (tgt := 20) hx hb dd_M_flaky_15 (by decide) (fun c_29 => ?_) (fun c_29 => ?_)
    · have hF := jv_f c_29 hF
      refine lv_iconst (v := 0) hx hb dd_M_flaky_20 (by decide) ?_
      refine lv_istore_n (lv' := [(2, .int 0), (0, .ref h0), (1, .int x1)]) hx hb dd_M_flaky_21 rfl hl (by decide) rfl (fun ls hl => ?_)
      refine lv_iconst (v := 0) hx hb dd_M_flaky_22 (by decide) ?_
      refine lv_istore_n (lv' := [(3, .int 0), (2, .int 0), (0, .ref h0), (1, .int x1)]) hx hb dd_M_flaky_23 rfl hl (by decide) rfl (fun ls hl => ?_)
      refine lv_iconst (v := 0) hx hb dd_M_flaky_24 (by decide) ?_
      refine lv_istore (lv' := [(4, .int 0), (3, .int 0), (2, .int 0), (0, .ref h0), (1, .int x1)]) hx hb dd_M_flaky_25 hl (by decide) rfl (fun ls hl => ?_)
      exact lp27 4000 x1 0 0 0 hF ls (lv_sub hl [3, 4, 2, 1, 0] rfl)
    · have hF := jv_t c_29 hF
      refine lv_iconst (v := 0) hx hb dd_M_flaky_18 (by decide) ?_
      subst hQ
      exact W.zret (v := 0) hx hb hr rfl (fun t ht hW => ⟨0, rfl, (Option.some.inj hF), ht⟩) (fun _ h => by cases h) dd_M_flaky_19
