/-! The String constants, and the JDK's own methods of them. -/
def st_len : List Nat := st_tx.map List.length
def st_byt : List (List Int32) := st_tx.map (fun l => l.map nI)
def st_l : List (String × Nat × String × Nat) := [(cn_C, 35, "    ", 1), (cn_E, 43, "TAP version 14", 0), (cn_E, 59, "Bail out\x21", 9), (cn_E, 65, "1..", 8), (cn_E, 77, "# Subtest: ", 2), (cn_E, 87, "ok ", 3), (cn_E, 89, " # SKIP", 6), (cn_E, 95, "not ok ", 4), (cn_E, 97, " # TODO", 7), (cn_E, 99, " - ", 5), (cn_P, 33, "    ", 1), (cn_W, 25, "TAP version 14", 0), (cn_W, 71, "Bail out\x21", 9), (cn_W, 79, "1..", 8), (cn_W, 90, "# Subtest: ", 2), (cn_W, 110, " - ", 5), (cn_W, 115, "not ok ", 4), (cn_W, 117, "ok ", 3), (cn_W, 119, " # SKIP", 6), (cn_W, 121, " # TODO", 7), (cn_W, 123, "", 10)]
def sK_ (adK adV : Nat → Nat) (A : Nat → Prop) (U : State) : Prop := va_Z "java/lang/String" "COMPACT_STRINGS" "Z" (.int 1) A U U.heap ∧ va_Zq "jdk/internal/util/Preconditions" "SIOOBE_FORMATTER" "Ljava/util/function/BiFunction;" A U U.heap ∧ vk_S 11 st_len st_byt adK adV A U U.heap ∧ ∀ q ∈ st_l, vk_R q.1 q.2.1 q.2.2.1 (adK q.2.2.2) U
theorem sk_R {adK adV : Nat → Nat} {A : Nat → Prop} {U : State} {k : Nat} {own tx : String} {ix j : Nat} (hV : sK_ adK adV A U) (h : st_l[k]? = some (own, ix, tx, j)) : vk_R own ix tx (adK j) U := hV.2.2.2 (own, ix, tx, j) (List.mem_of_getElem? h)
abbrev mS_ (adK adV : Nat → Nat) (D : va_G) (tys : List (ClassId × FieldType)) (ws : va_W) (sz : Nat) (av : List Value) : Array Value → State → Prop := va_Pc av (fun U => U.heap.size = sz ∧ va_P D vwCl ws U.heap ∧ va_K D vwCl tys U ∧ va_D (fun _ => True) ws ∧ sK_ adK adV (va_A ws sz) U)
theorem jv_sbl {adK adV : Nat → Nat} {D : va_G} {tys : List (ClassId × FieldType)} {ws : va_W} {sz : Nat} {av : List Value} : FrameBlind (mS_ adK adV D tys ws sz av) := fun a U g mk q => by
  obtain ⟨q0, q1, qP, qK, qD, z1, z2, z3, z4⟩ := q
  exact ⟨q0, q1, qP, va_K.moved (u := U) (U := U.calling g mk a) (Vm.Alike.refl U.vm) qK, qD, va_Z.moved (u := U) (U := U.calling g mk a) (Vm.Alike.refl U.vm) z1, va_Zq.moved (u := U) (U := U.calling g mk a) (Vm.Alike.refl U.vm) z2, vk_S.moved (u := U) (U := U.calling g mk a) (Vm.Alike.refl U.vm) z3, fun x hx => vk_R.same (u := U) (U := U.calling g mk a) rfl (z4 x hx)⟩
section Js
variable {s : State} {H : Heap} {locs : List Loc} {D : va_G} {tys : List (ClassId × FieldType)} {ws wc : va_W} {A : Nat → Prop} {adK adV : Nat → Nat}
theorem sK_go {B : Nat → Prop} {U : State} (hV : sK_ adK adV A s) (hS : va_S A s.heap H locs) (hAB : ∀ q, B q → A q) (hU : U.heap = H) (hW : s.WarmedH U.vm) : sK_ adK adV B U := by
  obtain ⟨z1, z2, z3, z4⟩ := hV
  refine ⟨?_, ?_, ?_, fun x hx => vk_R.warm hW (z4 x hx)⟩
  · rw [hU]
    exact va_Z.moved hW.alike ((z1.kept hS.2.1).narrow hAB)
  · rw [hU]
    exact va_Zq.moved hW.alike ((z2.kept hS.2.1).narrow hAB)
  · rw [hU]
    exact vk_S.moved hW.alike ((z3.kept hS.2.1).narrow hAB)
theorem jv_sv {C : String} {b : Nat} {As : List Value} (hK : va_K D vwCl tys s) (hP : va_P D vwCl ws H) (hD : va_D A ws) (hS : va_S A s.heap H locs) (hA : ∀ q, s.heap.size ≤ q → A q) (hV : sK_ adK adV A s) (is : List Nat) (h1 : is.filterMap (fun i => ws[i]?) = wc) (hn : va_nd is = true) (h2 : is.map (fun i => ws[i]?) = wc.map some)
    (hr : ∃ cell : Cell, H[b]? = some cell ∧ cell.vm.isStatics = false ∧ s.vm.findClass C = some cell.cls) : PreV s H C b (mS_ adK adV D tys wc H.size (Value.ref b :: As)) As :=
  ⟨jv_sbl, hr, fun U hU hW => ⟨rfl, by rw [hU], by rw [hU]; exact hP.sub is h1, va_K.moved hW.alike hK, (hD.sub is hn h2).weaken (fun _ _ _ _ => trivial), sK_go hV hS (va_free hD hS hA is h2) hU hW⟩⟩
theorem jv_ss {As : List Value} (hK : va_K D vwCl tys s) (hP : va_P D vwCl ws H) (hD : va_D A ws) (hS : va_S A s.heap H locs) (hA : ∀ q, s.heap.size ≤ q → A q) (hV : sK_ adK adV A s) (is : List Nat) (h1 : is.filterMap (fun i => ws[i]?) = wc) (hn : va_nd is = true) (h2 : is.map (fun i => ws[i]?) = wc.map some) : PreS s H (mS_ adK adV D tys wc H.size As) As :=
  ⟨jv_sbl, fun U hU hW => ⟨rfl, by rw [hU], by rw [hU]; exact hP.sub is h1, va_K.moved hW.alike hK, (hD.sub is hn h2).weaken (fun _ _ _ _ => trivial), sK_go hV hS (va_free hD hS hA is h2) hU hW⟩⟩
theorem sv_lt {i : Nat} {o : Int32} (h : fn_S_length i = some o) : i < 11 := by
  unfold fn_S_length at h
  by_cases e : i < 11
  · exact e
  · rw [if_neg e] at h; cases h
theorem sv_ct {i : Nat} {j o : Int32} (h : fn_S_charAt i j = some o) : i < 11 := by
  unfold fn_S_charAt at h
  by_cases e : i < 11
  · exact e
  · rw [if_neg e] at h; cases h
theorem sv_length {i : Nat} {o : Int32} (hV : sK_ adK adV A s) (h : fn_S_length i = some o) (hS : va_S A s.heap H locs) : ∃ cell : Cell, H[adK i]? = some cell ∧ cell.vm.isStatics = false ∧ s.vm.findClass "java/lang/String" = some cell.cls := vk_recv hV.2.2.1 (sv_lt h) hS
theorem sv_charAt {i : Nat} {j o : Int32} (hV : sK_ adK adV A s) (h : fn_S_charAt i j = some o) (hS : va_S A s.heap H locs) : ∃ cell : Cell, H[adK i]? = some cell ∧ cell.vm.isStatics = false ∧ s.vm.findClass "java/lang/String" = some cell.cls := vk_recv hV.2.2.1 (sv_ct h) hS
end Js
theorem sv_len : ∀ i, i < 11 → st_len.getD i 0 = (st_tx.getD i []).length := by decide +kernel
theorem sv_byt : ∀ i, i < 11 → ∀ j, j < 15 → (st_byt.getD i []).getD j 0 = nI ((st_tx.getD i []).getD j 0) ∧ (st_tx.getD i []).getD j 0 < 128 := by decide +kernel
theorem sv_l14 : ∀ i, i < 11 → (st_tx.getD i []).length ≤ 14 := by decide +kernel
theorem sv_asc : ∀ c, c < 128 → ((nI c &&& 255).toUInt32 % 65536).toInt32 = nI c := by decide +kernel
theorem dj_coder_0 : decode prog_10_method_152_code 0 = .ok (.getstatic 38, 3) := by decide +kernel
theorem dj_coder_3 : decode prog_10_method_152_code 3 = .ok (.ifCond .eq 10, 3) := by decide +kernel
theorem dj_coder_6 : decode prog_10_method_152_code 6 = .ok (.aload_n 0, 1) := by decide +kernel
theorem dj_coder_7 : decode prog_10_method_152_code 7 = .ok (.getfield 15, 3) := by decide +kernel
theorem dj_coder_10 : decode prog_10_method_152_code 10 = .ok (.goto 4, 3) := by decide +kernel
theorem dj_coder_14 : decode prog_10_method_152_code 14 = .ok (.ireturn, 1) := by decide +kernel
theorem dj_lat_0 : decode prog_10_method_154_code 0 = .ok (.getstatic 38, 3) := by decide +kernel
theorem dj_lat_3 : decode prog_10_method_154_code 3 = .ok (.ifCond .eq 14, 3) := by decide +kernel
theorem dj_lat_6 : decode prog_10_method_154_code 6 = .ok (.aload_n 0, 1) := by decide +kernel
theorem dj_lat_7 : decode prog_10_method_154_code 7 = .ok (.getfield 15, 3) := by decide +kernel
theorem dj_lat_10 : decode prog_10_method_154_code 10 = .ok (.ifCond .ne 7, 3) := by decide +kernel
theorem dj_lat_13 : decode prog_10_method_154_code 13 = .ok (.iconst 1, 1) := by decide +kernel
theorem dj_lat_14 : decode prog_10_method_154_code 14 = .ok (.goto 4, 3) := by decide +kernel
theorem dj_lat_18 : decode prog_10_method_154_code 18 = .ok (.ireturn, 1) := by decide +kernel
theorem dj_len_0 : decode prog_10_method_54_code 0 = .ok (.aload_n 0, 1) := by decide +kernel
theorem dj_len_1 : decode prog_10_method_54_code 1 = .ok (.getfield 9, 3) := by decide +kernel
theorem dj_len_4 : decode prog_10_method_54_code 4 = .ok (.arraylength, 1) := by decide +kernel
theorem dj_len_5 : decode prog_10_method_54_code 5 = .ok (.aload_n 0, 1) := by decide +kernel
theorem dj_len_6 : decode prog_10_method_54_code 6 = .ok (.invokevirtual 335, 3) := by decide +kernel
theorem dj_len_9 : decode prog_10_method_54_code 9 = .ok (.ishr, 1) := by decide +kernel
theorem dj_len_10 : decode prog_10_method_54_code 10 = .ok (.ireturn, 1) := by decide +kernel
theorem dj_at_0 : decode prog_10_method_56_code 0 = .ok (.aload_n 0, 1) := by decide +kernel
theorem dj_at_1 : decode prog_10_method_56_code 1 = .ok (.invokevirtual 492, 3) := by decide +kernel
theorem dj_at_4 : decode prog_10_method_56_code 4 = .ok (.ifCond .eq 12, 3) := by decide +kernel
theorem dj_at_7 : decode prog_10_method_56_code 7 = .ok (.aload_n 0, 1) := by decide +kernel
theorem dj_at_8 : decode prog_10_method_56_code 8 = .ok (.getfield 9, 3) := by decide +kernel
theorem dj_at_11 : decode prog_10_method_56_code 11 = .ok (.iload_n 1, 1) := by decide +kernel
theorem dj_at_12 : decode prog_10_method_56_code 12 = .ok (.invokestatic 495, 3) := by decide +kernel
theorem dj_at_15 : decode prog_10_method_56_code 15 = .ok (.ireturn, 1) := by decide +kernel
theorem dj_ci_0 : decode prog_10_method_155_code 0 = .ok (.iload_n 0, 1) := by decide +kernel
theorem dj_ci_1 : decode prog_10_method_155_code 1 = .ok (.iload_n 1, 1) := by decide +kernel
theorem dj_ci_2 : decode prog_10_method_155_code 2 = .ok (.getstatic 1053, 3) := by decide +kernel
theorem dj_ci_5 : decode prog_10_method_155_code 5 = .ok (.invokestatic 1059, 3) := by decide +kernel
theorem dj_ci_8 : decode prog_10_method_155_code 8 = .ok (.pop, 1) := by decide +kernel
theorem dj_ci_9 : decode prog_10_method_155_code 9 = .ok (.return_, 1) := by decide +kernel
theorem dj_l1_0 : decode prog_11_method_2_code 0 = .ok (.iload_n 1, 1) := by decide +kernel
theorem dj_l1_1 : decode prog_11_method_2_code 1 = .ok (.aload_n 0, 1) := by decide +kernel
theorem dj_l1_2 : decode prog_11_method_2_code 2 = .ok (.arraylength, 1) := by decide +kernel
theorem dj_l1_3 : decode prog_11_method_2_code 3 = .ok (.invokestatic 9, 3) := by decide +kernel
theorem dj_l1_6 : decode prog_11_method_2_code 6 = .ok (.aload_n 0, 1) := by decide +kernel
theorem dj_l1_7 : decode prog_11_method_2_code 7 = .ok (.iload_n 1, 1) := by decide +kernel
theorem dj_l1_8 : decode prog_11_method_2_code 8 = .ok (.baload, 1) := by decide +kernel
theorem dj_l1_9 : decode prog_11_method_2_code 9 = .ok (.sipush 255, 3) := by decide +kernel
theorem dj_l1_12 : decode prog_11_method_2_code 12 = .ok (.iand, 1) := by decide +kernel
theorem dj_l1_13 : decode prog_11_method_2_code 13 = .ok (.i2c, 1) := by decide +kernel
theorem dj_l1_14 : decode prog_11_method_2_code 14 = .ok (.ireturn, 1) := by decide +kernel
theorem dj_pc_0 : decode prog_13_method_11_code 0 = .ok (.iload_n 0, 1) := by decide +kernel
theorem dj_pc_1 : decode prog_13_method_11_code 1 = .ok (.ifCond .lt 8, 3) := by decide +kernel
theorem dj_pc_4 : decode prog_13_method_11_code 4 = .ok (.iload_n 0, 1) := by decide +kernel
theorem dj_pc_5 : decode prog_13_method_11_code 5 = .ok (.iload_n 1, 1) := by decide +kernel
theorem dj_pc_6 : decode prog_13_method_11_code 6 = .ok (.if_icmp .lt 10, 3) := by decide +kernel
theorem dj_pc_16 : decode prog_13_method_11_code 16 = .ok (.iload_n 0, 1) := by decide +kernel
theorem dj_pc_17 : decode prog_13_method_11_code 17 = .ok (.ireturn, 1) := by decide +kernel
set_option maxHeartbeats 4000000 in
set_option maxRecDepth 100000 in
theorem c_J_coder (l : Launch) (dC : Nat → ClassId) (dI : Nat → Nat → Nat) (cI cL cC cZ : ClassId) (adK adV : Nat → Nat) (sz : Nat) (i : Nat) (hi : i < 11) : Met l (⟨"java/lang/String", "coder", "()B"⟩ : MethodName) (.code (⟨"java/lang/String", "coder", "()B"⟩ : MethodName) prog_10_method_152_code 1 (some .byte) :: TB_) { frames := 0, cells := 0, slots := 0, locals := 0 } (mS_ adK adV (dC, dI) (tk_ cI cL cC cZ) [] sz [.ref (adK i)]) (vp_Si (fun r => r = 0)) 0 0 (fun _ => False) := by
  refine Met.ofW (cc := prog_10_method_152_code) (maxL := 1) (ret := (some .byte)) (by decide) rfl ?_
  intro p e s m args below meth c s₁ B hml hv
  obtain ⟨hargs, hsz, hP, hK, hD0, hV⟩ := hv
  have hx := B.exec
  have hb := B.bytes
  have hr := B.returns
  have hts := atoms_spec (ws := (.code (⟨"java/lang/String", "coder", "()B"⟩ : MethodName) prog_10_method_152_code 1 (some .byte) :: TB_)) B.pre
  have ht : ∀ w ∈ TB_, w.before args s = true := fun w h => hts w (List.mem_cons_of_mem _ h)
  have hown : s.vm.findClass "java/lang/String" = some m.cls := findClass_of_methodNamed B.named
  have hlocks := B.notSynchronized
  subst hsz
  have hD := hD0.self (sz := s.heap.size)
  generalize hAe : va_A [] s.heap.size = A at hD hV
  have hA : ∀ q : Nat, s.heap.size ≤ q → A q := fun q h => by rw [← hAe]; exact Or.inr h
  have hS : va_S A s.heap s.heap [] := va_S.rf
  have hP : va_P (dC, dI) vwCl [] s.heap := hP
  have hl := lv_entry [.ref (adK i)] (n := 1) (Nat.le_of_ble_eq_true rfl)
  have he : entryFrame m args 1 = _ := (congrArg (fun a => entryFrame m a 1) hargs).trans (lg_entry_eq m [.ref (adK i)] 1)
  rw [he]
  generalize (lg_sl [.ref (adK i)] ++ List.replicate (1 - (lg_sl [.ref (adK i)]).length) Slot.unset).toArray = ls at hl ⊢
  have hl : lv_has ls 1 [(0, .ref (adK i))] := hl
  refine va_gets hx hb hV.1 hS hown (ht _ tw_1_206) (fun _ h9 => h9) dj_coder_0 ?_
  refine lv_if_eq (tgt := 13) hx hb dj_coder_3 (by decide) (fun c1 => absurd c1 (by decide)) (fun _ => ?_)
  refine lv_aload_n hx hb dj_coder_6 rfl (lv_at hl 0 rfl) ?_
  refine vk_getf hx hb (hV.2.2.1.1 i hi).2.1 hS hown (ht _ tw_4_77) (fun _ h9 => h9) dj_coder_7 ?_
  refine lv_goto (tgt := 14) hx hb dj_coder_10 (by decide) ?_
  exact W.zret (v := 0) hx hb hr rfl (fun t ht hW => ⟨0, rfl, rfl, ht⟩) (fun _ h => by cases h) dj_coder_14
set_option maxHeartbeats 4000000 in
set_option maxRecDepth 100000 in
theorem c_J_lat (l : Launch) (dC : Nat → ClassId) (dI : Nat → Nat → Nat) (cI cL cC cZ : ClassId) (adK adV : Nat → Nat) (sz : Nat) (i : Nat) (hi : i < 11) : Met l (⟨"java/lang/String", "isLatin1", "()Z"⟩ : MethodName) (.code (⟨"java/lang/String", "isLatin1", "()Z"⟩ : MethodName) prog_10_method_154_code 1 (some .boolean) :: TB_) { frames := 0, cells := 0, slots := 0, locals := 0 } (mS_ adK adV (dC, dI) (tk_ cI cL cC cZ) [] sz [.ref (adK i)]) (vp_Si (fun r => r = 1)) 0 0 (fun _ => False) := by
  refine Met.ofW (cc := prog_10_method_154_code) (maxL := 1) (ret := (some .boolean)) (by decide) rfl ?_
  intro p e s m args below meth c s₁ B hml hv
  obtain ⟨hargs, hsz, hP, hK, hD0, hV⟩ := hv
  have hx := B.exec
  have hb := B.bytes
  have hr := B.returns
  have hts := atoms_spec (ws := (.code (⟨"java/lang/String", "isLatin1", "()Z"⟩ : MethodName) prog_10_method_154_code 1 (some .boolean) :: TB_)) B.pre
  have ht : ∀ w ∈ TB_, w.before args s = true := fun w h => hts w (List.mem_cons_of_mem _ h)
  have hown : s.vm.findClass "java/lang/String" = some m.cls := findClass_of_methodNamed B.named
  have hlocks := B.notSynchronized
  subst hsz
  have hD := hD0.self (sz := s.heap.size)
  generalize hAe : va_A [] s.heap.size = A at hD hV
  have hA : ∀ q : Nat, s.heap.size ≤ q → A q := fun q h => by rw [← hAe]; exact Or.inr h
  have hS : va_S A s.heap s.heap [] := va_S.rf
  have hP : va_P (dC, dI) vwCl [] s.heap := hP
  have hl := lv_entry [.ref (adK i)] (n := 1) (Nat.le_of_ble_eq_true rfl)
  have he : entryFrame m args 1 = _ := (congrArg (fun a => entryFrame m a 1) hargs).trans (lg_entry_eq m [.ref (adK i)] 1)
  rw [he]
  generalize (lg_sl [.ref (adK i)] ++ List.replicate (1 - (lg_sl [.ref (adK i)]).length) Slot.unset).toArray = ls at hl ⊢
  have hl : lv_has ls 1 [(0, .ref (adK i))] := hl
  refine va_gets hx hb hV.1 hS hown (ht _ tw_1_206) (fun _ h9 => h9) dj_lat_0 ?_
  refine lv_if_eq (tgt := 17) hx hb dj_lat_3 (by decide) (fun c1 => absurd c1 (by decide)) (fun _ => ?_)
  refine lv_aload_n hx hb dj_lat_6 rfl (lv_at hl 0 rfl) ?_
  refine vk_getf hx hb (hV.2.2.1.1 i hi).2.1 hS hown (ht _ tw_4_77) (fun _ h9 => h9) dj_lat_7 ?_
  refine lv_if_ne (tgt := 17) hx hb dj_lat_10 (by decide) (fun c1 => absurd rfl c1) (fun _ => ?_)
  refine lv_iconst (v := 1) hx hb dj_lat_13 (by decide) ?_
  refine lv_goto (tgt := 18) hx hb dj_lat_14 (by decide) ?_
  exact W.zret (v := 1) hx hb hr rfl (fun t ht hW => ⟨1, rfl, rfl, ht⟩) (fun _ h => by cases h) dj_lat_18
set_option maxHeartbeats 4000000 in
set_option maxRecDepth 100000 in
theorem c_J_pc (l : Launch) (dC : Nat → ClassId) (dI : Nat → Nat → Nat) (cI cL cC cZ : ClassId) (sz : Nat) (x n : Int32) (r : Option Nat) (h0 : ¬ x < 0) (h1 : x < n) : Met l (⟨"jdk/internal/util/Preconditions", "checkIndex", "(IILjava/util/function/BiFunction;)I"⟩ : MethodName) (.code (⟨"jdk/internal/util/Preconditions", "checkIndex", "(IILjava/util/function/BiFunction;)I"⟩ : MethodName) prog_13_method_11_code 3 (some .int) :: TB_) { frames := 0, cells := 0, slots := 0, locals := 0 } (mP_ (dC, dI) (tk_ cI cL cC cZ) [] sz [.int x, .int n, va_rf r]) (vp_Si (fun r => r = x)) 0 0 (fun _ => False) := by
  rcases r with _ | r
  · refine Met.ofW (cc := prog_13_method_11_code) (maxL := 3) (ret := (some .int)) (by decide) rfl ?_
    intro p e s m args below meth c s₁ B hml hv
    obtain ⟨hargs, hsz, hP, hK, hD0⟩ := hv
    have hx := B.exec
    have hb := B.bytes
    have hr := B.returns
    have hts := atoms_spec (ws := (.code (⟨"jdk/internal/util/Preconditions", "checkIndex", "(IILjava/util/function/BiFunction;)I"⟩ : MethodName) prog_13_method_11_code 3 (some .int) :: TB_)) B.pre
    have ht : ∀ w ∈ TB_, w.before args s = true := fun w h => hts w (List.mem_cons_of_mem _ h)
    have hown : s.vm.findClass "jdk/internal/util/Preconditions" = some m.cls := findClass_of_methodNamed B.named
    have hlocks := B.notSynchronized
    subst hsz
    have hD := hD0.self (sz := s.heap.size)
    generalize hAe : va_A [] s.heap.size = A at hD
    have hA : ∀ q : Nat, s.heap.size ≤ q → A q := fun q h => by rw [← hAe]; exact Or.inr h
    have hS : va_S A s.heap s.heap [] := va_S.rf
    have hP : va_P (dC, dI) vwCl [] s.heap := hP
    have hl := lv_entry [.int x, .int n, .null] (n := 3) (Nat.le_of_ble_eq_true rfl)
    have he : entryFrame m args 3 = _ := (congrArg (fun a => entryFrame m a 3) hargs).trans (lg_entry_eq m [.int x, .int n, .null] 3)
    rw [he]
    generalize (lg_sl [.int x, .int n, .null] ++ List.replicate (3 - (lg_sl [.int x, .int n, .null]).length) Slot.unset).toArray = ls at hl ⊢
    have hl : lv_has ls 3 [(0, .int x), (1, .int n), (2, .null)] := hl
    refine lv_iload_n hx hb dj_pc_0 rfl (lv_at hl 0 rfl) ?_
    refine lv_if_lt (tgt := 9) hx hb dj_pc_1 (by decide) (fun c1 => absurd c1 h0) (fun _ => ?_)
    refine lv_iload_n hx hb dj_pc_4 rfl (lv_at hl 0 rfl) ?_
    refine lv_iload_n hx hb dj_pc_5 rfl (lv_at hl 1 rfl) ?_
    refine lv_icmp_lt (tgt := 16) hx hb dj_pc_6 (by decide) (fun _ => ?_) (fun c1 => absurd h1 c1)
    refine lv_iload_n hx hb dj_pc_16 rfl (lv_at hl 0 rfl) ?_
    exact W.iret (v := x) hx hb hr (fun t ht hW => ⟨x, rfl, rfl, ht⟩) (fun _ h => by cases h) dj_pc_17
  · refine Met.ofW (cc := prog_13_method_11_code) (maxL := 3) (ret := (some .int)) (by decide) rfl ?_
    intro p e s m args below meth c s₁ B hml hv
    obtain ⟨hargs, hsz, hP, hK, hD0⟩ := hv
    have hx := B.exec
    have hb := B.bytes
    have hr := B.returns
    have hts := atoms_spec (ws := (.code (⟨"jdk/internal/util/Preconditions", "checkIndex", "(IILjava/util/function/BiFunction;)I"⟩ : MethodName) prog_13_method_11_code 3 (some .int) :: TB_)) B.pre
    have ht : ∀ w ∈ TB_, w.before args s = true := fun w h => hts w (List.mem_cons_of_mem _ h)
    have hown : s.vm.findClass "jdk/internal/util/Preconditions" = some m.cls := findClass_of_methodNamed B.named
    have hlocks := B.notSynchronized
    subst hsz
    have hD := hD0.self (sz := s.heap.size)
    generalize hAe : va_A [] s.heap.size = A at hD
    have hA : ∀ q : Nat, s.heap.size ≤ q → A q := fun q h => by rw [← hAe]; exact Or.inr h
    have hS : va_S A s.heap s.heap [] := va_S.rf
    have hP : va_P (dC, dI) vwCl [] s.heap := hP
    have hl := lv_entry [.int x, .int n, .ref r] (n := 3) (Nat.le_of_ble_eq_true rfl)
    have he : entryFrame m args 3 = _ := (congrArg (fun a => entryFrame m a 3) hargs).trans (lg_entry_eq m [.int x, .int n, .ref r] 3)
    rw [he]
    generalize (lg_sl [.int x, .int n, .ref r] ++ List.replicate (3 - (lg_sl [.int x, .int n, .ref r]).length) Slot.unset).toArray = ls at hl ⊢
    have hl : lv_has ls 3 [(0, .int x), (1, .int n), (2, .ref r)] := hl
    refine lv_iload_n hx hb dj_pc_0 rfl (lv_at hl 0 rfl) ?_
    refine lv_if_lt (tgt := 9) hx hb dj_pc_1 (by decide) (fun c1 => absurd c1 h0) (fun _ => ?_)
    refine lv_iload_n hx hb dj_pc_4 rfl (lv_at hl 0 rfl) ?_
    refine lv_iload_n hx hb dj_pc_5 rfl (lv_at hl 1 rfl) ?_
    refine lv_icmp_lt (tgt := 16) hx hb dj_pc_6 (by decide) (fun _ => ?_) (fun c1 => absurd h1 c1)
    refine lv_iload_n hx hb dj_pc_16 rfl (lv_at hl 0 rfl) ?_
    exact W.iret (v := x) hx hb hr (fun t ht hW => ⟨x, rfl, rfl, ht⟩) (fun _ h => by cases h) dj_pc_17
set_option maxHeartbeats 4000000 in
set_option maxRecDepth 100000 in
theorem c_J_ci (l : Launch) (dC : Nat → ClassId) (dI : Nat → Nat → Nat) (cI cL cC cZ : ClassId) (adK adV : Nat → Nat) (sz : Nat) (x n : Int32) (h0 : ¬ x < 0) (h1 : x < n) : Met l (⟨"java/lang/String", "checkIndex", "(II)V"⟩ : MethodName) (.code (⟨"java/lang/String", "checkIndex", "(II)V"⟩ : MethodName) prog_10_method_155_code 2 none :: TB_) { frames := 1, cells := 0, slots := 0, locals := 22 } (mS_ adK adV (dC, dI) (tk_ cI cL cC cZ) [] sz [.int x, .int n]) (va_Sv (fun _ => True)) 0 0 (fun _ => False) := by
  refine Met.ofW (cc := prog_10_method_155_code) (maxL := 2) (ret := none) (by decide) rfl ?_
  intro p e s m args below meth c s₁ B hml hv
  obtain ⟨hargs, hsz, hP, hK, hD0, hV⟩ := hv
  have hx := B.exec
  have hb := B.bytes
  have hr := B.returns
  have hts := atoms_spec (ws := (.code (⟨"java/lang/String", "checkIndex", "(II)V"⟩ : MethodName) prog_10_method_155_code 2 none :: TB_)) B.pre
  have ht : ∀ w ∈ TB_, w.before args s = true := fun w h => hts w (List.mem_cons_of_mem _ h)
  have hown : s.vm.findClass "java/lang/String" = some m.cls := findClass_of_methodNamed B.named
  have hlocks := B.notSynchronized
  subst hsz
  have hD := hD0.self (sz := s.heap.size)
  generalize hAe : va_A [] s.heap.size = A at hD hV
  have hA : ∀ q : Nat, s.heap.size ≤ q → A q := fun q h => by rw [← hAe]; exact Or.inr h
  have hS : va_S A s.heap s.heap [] := va_S.rf
  have hP : va_P (dC, dI) vwCl [] s.heap := hP
  have hl := lv_entry [.int x, .int n] (n := 2) (Nat.le_of_ble_eq_true rfl)
  have he : entryFrame m args 2 = _ := (congrArg (fun a => entryFrame m a 2) hargs).trans (lg_entry_eq m [.int x, .int n] 2)
  rw [he]
  generalize (lg_sl [.int x, .int n] ++ List.replicate (2 - (lg_sl [.int x, .int n]).length) Slot.unset).toArray = ls at hl ⊢
  have hl : lv_has ls 2 [(0, .int x), (1, .int n)] := hl
  obtain ⟨r, hZ⟩ : ∃ r : Option Nat, va_Z "jdk/internal/util/Preconditions" "SIOOBE_FORMATTER" "Ljava/util/function/BiFunction;" (va_rf r) A s s.heap := by
    rcases hV.2.1 with h | ⟨q, h⟩
    · exact ⟨none, h⟩
    · exact ⟨some q, h⟩
  refine lv_iload_n hx hb dj_ci_0 rfl (lv_at hl 0 rfl) ?_
  refine lv_iload_n hx hb dj_ci_1 rfl (lv_at hl 1 rfl) ?_
  refine va_gets hx hb hZ hS hown (ht _ tw_1_222) (fun _ h9 => h9) dj_ci_2 ?_
  refine jv_ci (va_runS (As := [.int x, .int n, va_rf r]) (rest := []) ⟨hx, hb, hml, hown, ht⟩ (c_J_pc l dC dI cI cL cC cZ s.heap.size x n r h0 h1) (va_cwS 3 ht (gi_S tw_1_224 tw_1_225 tw_1_9 tw_1_226) rfl rfl rfl (by decide +kernel) ⟨Nat.le_of_ble_eq_true rfl, Nat.le_of_ble_eq_true rfl⟩) (jv_ps hK hP hD [] rfl (by decide) rfl) rfl rfl hl.1 rfl (lv_room (Nat.le_of_ble_eq_true rfl)) dj_ci_5 ⟨Nat.le_of_ble_eq_true rfl, Nat.le_of_ble_eq_true rfl⟩) ?_
  refine lv_pop hx hb dj_ci_8 rfl ?_
  exact W.vret hx hb hr (fun t ht hW => ⟨rfl, trivial, ht⟩) (fun _ h => by cases h) dj_ci_9
set_option maxHeartbeats 4000000 in
set_option maxRecDepth 100000 in
theorem c_J_l1 (l : Launch) (dC : Nat → ClassId) (dI : Nat → Nat → Nat) (cI cL cC cZ : ClassId) (adK adV : Nat → Nat) (sz : Nat) (i : Nat) (x : Int32) (hi : i < 11) (hx0 : vp_in x (st_tx.getD i []).length) : Met l (⟨"java/lang/StringLatin1", "charAt", "([BI)C"⟩ : MethodName) (.code (⟨"java/lang/StringLatin1", "charAt", "([BI)C"⟩ : MethodName) prog_11_method_2_code 2 (some .char) :: TB_) { frames := 2, cells := 0, slots := 0, locals := 43 } (mS_ adK adV (dC, dI) (tk_ cI cL cC cZ) [] sz [.ref (adV i), .int x]) (vp_Si (fun r => r = nI ((st_tx.getD i []).getD x.toNatClampNeg 0))) 0 0 (fun _ => False) := by
  refine Met.ofW (cc := prog_11_method_2_code) (maxL := 2) (ret := (some .char)) (by decide) rfl ?_
  intro p e s m args below meth c s₁ B hml hv
  obtain ⟨hargs, hsz, hP, hK, hD0, hV⟩ := hv
  have hx := B.exec
  have hb := B.bytes
  have hr := B.returns
  have hts := atoms_spec (ws := (.code (⟨"java/lang/StringLatin1", "charAt", "([BI)C"⟩ : MethodName) prog_11_method_2_code 2 (some .char) :: TB_)) B.pre
  have ht : ∀ w ∈ TB_, w.before args s = true := fun w h => hts w (List.mem_cons_of_mem _ h)
  have hown : s.vm.findClass "java/lang/StringLatin1" = some m.cls := findClass_of_methodNamed B.named
  have hlocks := B.notSynchronized
  subst hsz
  have hD := hD0.self (sz := s.heap.size)
  generalize hAe : va_A [] s.heap.size = A at hD hV
  have hA : ∀ q : Nat, s.heap.size ≤ q → A q := fun q h => by rw [← hAe]; exact Or.inr h
  have hS : va_S A s.heap s.heap [] := va_S.rf
  have hP : va_P (dC, dI) vwCl [] s.heap := hP
  have hl := lv_entry [.ref (adV i), .int x] (n := 2) (Nat.le_of_ble_eq_true rfl)
  have he : entryFrame m args 2 = _ := (congrArg (fun a => entryFrame m a 2) hargs).trans (lg_entry_eq m [.ref (adV i), .int x] 2)
  rw [he]
  generalize (lg_sl [.ref (adV i), .int x] ++ List.replicate (2 - (lg_sl [.ref (adV i), .int x]).length) Slot.unset).toArray = ls at hl ⊢
  have hl : lv_has ls 2 [(0, .ref (adV i)), (1, .int x)] := hl
  have hT := (hV.2.2.1.1 i hi).2.2.2
  rw [sv_len i hi] at hT
  obtain ⟨j, hj, ej⟩ := vp_in_of hx0 (by have := sv_l14 i hi; omega)
  have h14 := sv_l14 i hi
  refine lv_iload_n hx hb dj_l1_0 rfl (lv_at hl 1 rfl) ?_
  refine lv_aload_n hx hb dj_l1_1 rfl (lv_at hl 0 rfl) ?_
  refine va_tlen hx hb hT hS rfl dj_l1_2 ?_
  refine jv_cv (va_runS (As := [.int x, .int (Int32.ofNat (st_tx.getD i []).length)]) (rest := []) ⟨hx, hb, hml, hown, ht⟩ (c_J_ci l dC dI cI cL cC cZ adK adV s.heap.size x (Int32.ofNat (st_tx.getD i []).length) (by rw [ej]; exact nI_pos (by omega)) (by rw [ej]; exact nI_lt hj (by omega))) (va_cwS 2 ht (gi_S tw_1_219 tw_1_220 tw_1_7 tw_1_221) rfl rfl rfl (by decide +kernel) ⟨Nat.le_of_ble_eq_true rfl, Nat.le_of_ble_eq_true rfl⟩) (jv_ss hK hP hD hS hA hV [] rfl (by decide) rfl) rfl rfl hl.1 rfl (lv_room (Nat.le_of_ble_eq_true rfl)) dj_l1_3 ⟨Nat.le_of_ble_eq_true rfl, Nat.le_of_ble_eq_true rfl⟩) ?_
  refine lv_aload_n hx hb dj_l1_6 rfl (lv_at hl 0 rfl) ?_
  refine lv_iload_n hx hb dj_l1_7 rfl (lv_at hl 1 rfl) ?_
  refine va_tb hx hb hT hS hx0 rfl dj_l1_8 ?_
  refine lv_sipush (v := 255) hx hb dj_l1_9 (by decide) ?_
  refine lv_iand hx hb dj_l1_12 ?_
  refine lv_i2c hx hb dj_l1_13 rfl ?_
  have ec : x.toNatClampNeg = j := by rw [ej]; exact nI_clamp (by omega)
  have eb := sv_byt i hi j (by omega)
  have ev : (((st_byt.getD i []).getD x.toNatClampNeg 0 &&& 255).toUInt32 % 65536).toInt32 = nI ((st_tx.getD i []).getD x.toNatClampNeg 0) := by rw [ec, eb.1]; exact sv_asc _ eb.2
  exact W.zret (v := (((st_byt.getD i []).getD x.toNatClampNeg 0 &&& 255).toUInt32 % 65536).toInt32) hx hb hr (pk_nc _) (fun t ht hW => ⟨_, rfl, ev, ht⟩) (fun _ h => by cases h) dj_l1_14
set_option maxHeartbeats 4000000 in
set_option maxRecDepth 100000 in
theorem c_S_charAt (l : Launch) (dC : Nat → ClassId) (dI : Nat → Nat → Nat) (cI cL cC cZ : ClassId) (adK adV : Nat → Nat) (sz : Nat) (i : Nat) (x : Int32) (out : Int32) (hF : fn_S_charAt i x = some out) : Met l (⟨"java/lang/String", "charAt", "(I)C"⟩ : MethodName) (.code (⟨"java/lang/String", "charAt", "(I)C"⟩ : MethodName) prog_10_method_56_code 2 (some .char) :: TB_) { frames := 3, cells := 0, slots := 0, locals := 64 } (mS_ adK adV (dC, dI) (tk_ cI cL cC cZ) [] sz [.ref (adK i), .int x]) (vp_Si (fun r => r = out)) 0 0 (fun _ => False) := by
  refine Met.ofW (cc := prog_10_method_56_code) (maxL := 2) (ret := (some .char)) (by decide) rfl ?_
  intro p e s m args below meth c s₁ B hml hv
  obtain ⟨hargs, hsz, hP, hK, hD0, hV⟩ := hv
  have hx := B.exec
  have hb := B.bytes
  have hr := B.returns
  have hts := atoms_spec (ws := (.code (⟨"java/lang/String", "charAt", "(I)C"⟩ : MethodName) prog_10_method_56_code 2 (some .char) :: TB_)) B.pre
  have ht : ∀ w ∈ TB_, w.before args s = true := fun w h => hts w (List.mem_cons_of_mem _ h)
  have hown : s.vm.findClass "java/lang/String" = some m.cls := findClass_of_methodNamed B.named
  have hlocks := B.notSynchronized
  subst hsz
  have hD := hD0.self (sz := s.heap.size)
  generalize hAe : va_A [] s.heap.size = A at hD hV
  have hA : ∀ q : Nat, s.heap.size ≤ q → A q := fun q h => by rw [← hAe]; exact Or.inr h
  have hS : va_S A s.heap s.heap [] := va_S.rf
  have hP : va_P (dC, dI) vwCl [] s.heap := hP
  have hl := lv_entry [.ref (adK i), .int x] (n := 2) (Nat.le_of_ble_eq_true rfl)
  have he : entryFrame m args 2 = _ := (congrArg (fun a => entryFrame m a 2) hargs).trans (lg_entry_eq m [.ref (adK i), .int x] 2)
  rw [he]
  generalize (lg_sl [.ref (adK i), .int x] ++ List.replicate (2 - (lg_sl [.ref (adK i), .int x]).length) Slot.unset).toArray = ls at hl ⊢
  have hl : lv_has ls 2 [(0, .ref (adK i)), (1, .int x)] := hl
  have hi := sv_ct hF
  unfold fn_S_charAt at hF
  rw [if_pos hi] at hF
  obtain ⟨g1, hF⟩ := jv_gi hF
  have eo := Option.some.inj hF
  refine lv_aload_n hx hb dj_at_0 rfl (lv_at hl 0 rfl) ?_
  refine jv_ci (va_runV (C := "java/lang/String") (As := []) (rest := []) ⟨hx, hb, hml, hown, ht⟩ (c_J_lat l dC dI cI cL cC cZ adK adV s.heap.size i hi) (cwV 0 ht (gi_V tw_1_212 tw_1_213 tw_1_214 tw_1_7 tw_1_215) rfl rfl rfl (by decide +kernel) ⟨Nat.le_of_ble_eq_true rfl, Nat.le_of_ble_eq_true rfl⟩) (jv_sv hK hP hD hS hA hV [] rfl (by decide) rfl (vk_recv hV.2.2.1 hi hS)) rfl rfl hl.1 rfl (lv_room (Nat.le_of_ble_eq_true rfl)) dj_at_1 ⟨Nat.le_of_ble_eq_true rfl, Nat.le_of_ble_eq_true rfl⟩) ?_
  refine lv_if_eq (tgt := 16) hx hb dj_at_4 (by decide) (fun c1 => absurd c1 (by decide)) (fun _ => ?_)
  refine lv_aload_n hx hb dj_at_7 rfl (lv_at hl 0 rfl) ?_
  refine vk_getf hx hb (hV.2.2.1.1 i hi).2.2.1 hS hown (ht _ tw_4_76) (fun _ h9 => h9) dj_at_8 ?_
  refine lv_iload_n hx hb dj_at_11 rfl (lv_at hl 1 rfl) ?_
  refine jv_ci (va_runS (As := [.ref (adV i), .int x]) (rest := []) ⟨hx, hb, hml, hown, ht⟩ (c_J_l1 l dC dI cI cL cC cZ adK adV s.heap.size i x hi (jv_in g1)) (va_cwS 2 ht (gi_S tw_1_216 tw_1_217 tw_1_8 tw_1_218) rfl rfl rfl (by decide +kernel) ⟨Nat.le_of_ble_eq_true rfl, Nat.le_of_ble_eq_true rfl⟩) (jv_ss hK hP hD hS hA hV [] rfl (by decide) rfl) rfl rfl hl.1 rfl (lv_room (Nat.le_of_ble_eq_true rfl)) dj_at_12 ⟨Nat.le_of_ble_eq_true rfl, Nat.le_of_ble_eq_true rfl⟩) ?_
  exact W.zret (v := nI ((st_tx.getD i []).getD x.toNatClampNeg 0)) hx hb hr (pk_charN (by have := sv_l14 i hi; obtain ⟨j, hj, ej⟩ := vp_in_of (jv_in g1) (by omega); rw [ej, nI_clamp (by omega)]; have := (sv_byt i hi j (by omega)).2; omega)).1 (fun t ht hW => ⟨_, rfl, eo, ht⟩) (fun _ h => by cases h) dj_at_15
set_option maxHeartbeats 4000000 in
set_option maxRecDepth 100000 in
theorem c_S_length (l : Launch) (dC : Nat → ClassId) (dI : Nat → Nat → Nat) (cI cL cC cZ : ClassId) (adK adV : Nat → Nat) (sz : Nat) (i : Nat) (out : Int32) (hF : fn_S_length i = some out) : Met l (⟨"java/lang/String", "length", "()I"⟩ : MethodName) (.code (⟨"java/lang/String", "length", "()I"⟩ : MethodName) prog_10_method_54_code 1 (some .int) :: TB_) { frames := 1, cells := 0, slots := 0, locals := 20 } (mS_ adK adV (dC, dI) (tk_ cI cL cC cZ) [] sz [.ref (adK i)]) (vp_Si (fun r => r = out)) 0 0 (fun _ => False) := by
  refine Met.ofW (cc := prog_10_method_54_code) (maxL := 1) (ret := (some .int)) (by decide) rfl ?_
  intro p e s m args below meth c s₁ B hml hv
  obtain ⟨hargs, hsz, hP, hK, hD0, hV⟩ := hv
  have hx := B.exec
  have hb := B.bytes
  have hr := B.returns
  have hts := atoms_spec (ws := (.code (⟨"java/lang/String", "length", "()I"⟩ : MethodName) prog_10_method_54_code 1 (some .int) :: TB_)) B.pre
  have ht : ∀ w ∈ TB_, w.before args s = true := fun w h => hts w (List.mem_cons_of_mem _ h)
  have hown : s.vm.findClass "java/lang/String" = some m.cls := findClass_of_methodNamed B.named
  have hlocks := B.notSynchronized
  subst hsz
  have hD := hD0.self (sz := s.heap.size)
  generalize hAe : va_A [] s.heap.size = A at hD hV
  have hA : ∀ q : Nat, s.heap.size ≤ q → A q := fun q h => by rw [← hAe]; exact Or.inr h
  have hS : va_S A s.heap s.heap [] := va_S.rf
  have hP : va_P (dC, dI) vwCl [] s.heap := hP
  have hl := lv_entry [.ref (adK i)] (n := 1) (Nat.le_of_ble_eq_true rfl)
  have he : entryFrame m args 1 = _ := (congrArg (fun a => entryFrame m a 1) hargs).trans (lg_entry_eq m [.ref (adK i)] 1)
  rw [he]
  generalize (lg_sl [.ref (adK i)] ++ List.replicate (1 - (lg_sl [.ref (adK i)]).length) Slot.unset).toArray = ls at hl ⊢
  have hl : lv_has ls 1 [(0, .ref (adK i))] := hl
  have hi := sv_lt hF
  unfold fn_S_length at hF
  rw [if_pos hi] at hF
  have eo := Option.some.inj hF
  have hT := (hV.2.2.1.1 i hi).2.2.2
  rw [sv_len i hi] at hT
  refine lv_aload_n hx hb dj_len_0 rfl (lv_at hl 0 rfl) ?_
  refine vk_getf hx hb (hV.2.2.1.1 i hi).2.2.1 hS hown (ht _ tw_4_76) (fun _ h9 => h9) dj_len_1 ?_
  refine va_tlen hx hb hT hS rfl dj_len_4 ?_
  refine lv_aload_n hx hb dj_len_5 rfl (lv_at hl 0 rfl) ?_
  refine jv_ci (va_runV (C := "java/lang/String") (As := []) (rest := [.int (Int32.ofNat (st_tx.getD i []).length)]) ⟨hx, hb, hml, hown, ht⟩ (c_J_coder l dC dI cI cL cC cZ adK adV s.heap.size i hi) (cwV 0 ht (gi_V tw_1_202 tw_1_203 tw_1_204 tw_1_7 tw_1_205) rfl rfl rfl (by decide +kernel) ⟨Nat.le_of_ble_eq_true rfl, Nat.le_of_ble_eq_true rfl⟩) (jv_sv hK hP hD hS hA hV [] rfl (by decide) rfl (vk_recv hV.2.2.1 hi hS)) rfl rfl hl.1 rfl (lv_room (Nat.le_of_ble_eq_true rfl)) dj_len_6 ⟨Nat.le_of_ble_eq_true rfl, Nat.le_of_ble_eq_true rfl⟩) ?_
  refine lv_ishr hx hb dj_len_9 ?_
  rw [sb_shr0]
  exact W.iret (v := Int32.ofNat (st_tx.getD i []).length) hx hb hr (fun t ht hW => ⟨_, rfl, eo, ht⟩) (fun _ h => by cases h) dj_len_10
