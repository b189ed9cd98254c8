def p_M_at (x1 : Int32) (m_planned : Int32) (m_plan : Nat → Int32) (post : Int32 → Int32 → Prop) : Prop := (p_M_none x1 m_planned (fun r_1 => ((r_1 = 0 → (vp_in x1 8 ∧ post (m_plan (x1).toNatClampNeg) (0 : Int32))) ∧ (¬ r_1 = 0 → post (-1 : Int32) (0 : Int32)))))
abbrev rm_M_at : Room := { frames := 2, cells := 0, slots := 0, locals := 61 }
set_option maxHeartbeats 4000000 in
set_option maxRecDepth 100000 in
theorem c_M_at {l : Launch} {D : va_G} {sa : Nat → Nat} {cI cZ : ClassId} {sz : Nat} {d : Nat → Nat} {m_thrownCode : Int32} {m_places : Int32} {m_front : Int32} {m_turns : Int32} {m_fetched : Int32} {m_listed : Int32} {m_planned : Int32} {m_wasExact : Int32} {m_shelves : Int32} {m_placeOf : Nat → Int32} {m_blockedShelf : Nat → Int32} {m_on : Nat → Int32} {m_counts : Nat → Int32} {m_doors : Nat → Int32} {m_list : Nat → Int32} {m_plan : Nat → Int32} {m_shelf : Nat → Int32} {m_trial : Nat → Int32} {x1 : Int32} {post : Int32 → Int32 → Prop} (hw : p_M_at x1 m_planned m_plan post) : Met l y_M_at w_M_at rm_M_at (va_Pc [.ref (d 0), .int x1] (kP D sa [(cI, .int), (cZ, .boolean)] (mW d cI cZ m_thrownCode m_places m_front m_turns m_fetched m_listed m_planned m_wasExact m_shelves m_placeOf m_blockedShelf m_on m_counts m_doors m_list m_plan m_shelf m_trial) sz)) (va_Qi (fun r (u : Int32) => post r u) (fun (u : Int32) t => va_P D classes (mW d cI cZ u m_places m_front m_turns m_fetched m_listed m_planned m_wasExact m_shelves m_placeOf m_blockedShelf m_on m_counts m_doors m_list m_plan m_shelf m_trial) t.heap ∧ va_K D classes [(cI, .int), (cZ, .boolean)] t ∧ va_D (va_A (mW d cI cZ m_thrownCode m_places m_front m_turns m_fetched m_listed m_planned m_wasExact m_shelves m_placeOf m_blockedShelf m_on m_counts m_doors m_list m_plan m_shelf m_trial) sz) (mW d cI cZ u m_places m_front m_turns m_fetched m_listed m_planned m_wasExact m_shelves m_placeOf m_blockedShelf m_on m_counts m_doors m_list m_plan m_shelf m_trial)) (va_A (mW d cI cZ m_thrownCode m_places m_front m_turns m_fetched m_listed m_planned m_wasExact m_shelves m_placeOf m_blockedShelf m_on m_counts m_doors m_list m_plan m_shelf m_trial) sz)) 0 0 (va_A (mW d cI cZ m_thrownCode m_places m_front m_turns m_fetched m_listed m_planned m_wasExact m_shelves m_placeOf m_blockedShelf m_on m_counts m_doors m_list m_plan m_shelf m_trial) sz) := by
  refine Met.ofW (cc := b_M_at) (maxL := 2) (ret := (some .int)) (by decide) rfl ?_
  intro p e s m args below meth c s₁ B hml hv
  obtain ⟨rfl, hsz, hP, hK, hD0, hZ⟩ := hv
  have hx := B.exec
  have hb := B.bytes
  have hr := B.returns
  have hts := atoms_spec (ws := w_M_at) B.pre
  have hown : s.vm.findClass R_M = some m.cls := findClass_of_methodNamed B.named
  have hlocks := B.notSynchronized
  subst hsz
  have hD := hD0.self (sz := s.heap.size)
  generalize hAe : (va_A (mW d cI cZ m_thrownCode m_places m_front m_turns m_fetched m_listed m_planned m_wasExact m_shelves m_placeOf m_blockedShelf m_on m_counts m_doors m_list m_plan m_shelf m_trial) s.heap.size) = A at hD hZ ⊢
  have hA : ∀ q : Nat, s.heap.size ≤ q → A q := fun q h => by rw [← hAe]; exact Or.inr h
  have hS : va_S A s.heap s.heap [] := va_S.rf
  have hl := lv_entry ([.ref (d 0), .int x1]) (n := 2) (Nat.le_of_ble_eq_true rfl)
  rw [lg_entry_eq]
  generalize (lg_sl ([.ref (d 0), .int x1]) ++ List.replicate (2 - (lg_sl ([.ref (d 0), .int x1])).length) Slot.unset).toArray = ls at hl ⊢
  have hl : lv_has ls 2 [(0, .ref (d 0)), (1, .int x1)] := hl
  refine lv_aload_n hx hb d_M_at_0 rfl (lv_at hl 0 rfl) ?_
  refine lv_iconst (v := (0 : Int32)) hx hb d_M_at_1 (by decide) ?_
  refine va_put (D := D) (ci := 2) (v := .int (0 : Int32)) (ty := .int) (C := R_M) (T := F_M) (N := 18) hx hb hts (iK iW_M) t_M t_M_ok n_M hown hK hP hD hS 0 rfl rfl 0 (by decide) (hts _ (kM kw_8fca7397)) (fun _ h9 => h9) rfl (by decide +kernel) rfl rfl (Nat.le_of_ble_eq_true rfl) d_M_at_2 (fun H locs hP hD hS => ?_)
  have hP : va_P D classes (mW d cI cZ (0 : Int32) m_places m_front m_turns m_fetched m_listed m_planned m_wasExact m_shelves m_placeOf m_blockedShelf m_on m_counts m_doors m_list m_plan m_shelf m_trial) H := hP
  have hD : va_D A (mW d cI cZ (0 : Int32) m_places m_front m_turns m_fetched m_listed m_planned m_wasExact m_shelves m_placeOf m_blockedShelf m_on m_counts m_doors m_list m_plan m_shelf m_trial) := hD
  refine lv_iload_n hx hb d_M_at_5 rfl (lv_at hl 1 rfl) ?_
  refine lv_aload_n hx hb d_M_at_6 rfl (lv_at hl 0 rfl) ?_
  refine va_get (D := D) (ci := 2) (v := .int m_planned) (C := R_M) (T := F_M) (N := 18) hx hb hts (iK iW_M) hown hK hP 0 rfl rfl 12 (by decide) (hts _ (kM kw_29a007b6)) (fun _ h9 => h9) rfl d_M_at_7 ?_
  have hPc := hP.sub (ws' := []) [] rfl
  have hDc := hD.sub (ws' := []) [] (by decide) rfl
  have hFc := va_free (wc := []) hD hS hA [] rfl
  refine vp_callSi (W.runS (As := [.int x1, .int m_planned]) (rest := []) ⟨hx, hb, hml, hown, hts⟩ (c_M_none hw) (cwS 2 hts (gS k_M_none kw_344abd76 kw_8e7adc0a kw_98028344) rfl rfl rfl (by decide +kernel) ⟨(Nat.le_of_ble_eq_true rfl), (Nat.le_of_ble_eq_true rfl)⟩) ⟨kP.blind, kP.of hK hPc hDc hZ hS hFc⟩ rfl rfl hl.1 rfl (lv_room (Nat.le_of_ble_eq_true rfl)) d_M_at_10 ⟨(Nat.le_of_ble_eq_true rfl), (Nat.le_of_ble_eq_true rfl)⟩) (fun r_1 hw => ?_)
  refine lv_if_eq (tgt := 20) hx hb d_M_at_13 (by decide) (fun c_2 => ?_) (fun c_2 => ?_)
  · have hw := hw.1 c_2
    refine lv_aload_n hx hb d_M_at_20 rfl (lv_at hl 0 rfl) ?_
    refine va_get (D := D) (ci := 2) (v := .ref (d 7)) (C := R_M) (T := F_M) (N := 18) hx hb hts (iK iW_M) hown hK hP 0 rfl rfl 13 (by decide) (hts _ (kM kw_f176d92d)) (fun _ h9 => h9) rfl d_M_at_21 ?_
    refine lv_iload_n hx hb d_M_at_24 rfl (lv_at hl 1 rfl) ?_
    obtain ⟨h_3, hw⟩ := hw
    refine va_iald hx hb hK hP 7 0 rfl rfl h_3 d_M_at_25 ?_
    exact W.iret (v := (m_plan (x1).toNatClampNeg)) hx hb hr (fun t ht hW => ⟨⟨(m_plan (x1).toNatClampNeg), (0 : Int32), rfl, hw, by rw [ht]; exact hP, va_K.moved hW.alike hK, hD⟩, hS.F ht⟩) hS.2.2 d_M_at_26
  · have hw := hw.2 c_2
    refine lv_iconst (v := (-1 : Int32)) hx hb d_M_at_16 (by decide) ?_
    refine lv_goto (tgt := 26) hx hb d_M_at_17 (by decide) ?_
    exact W.iret (v := (-1 : Int32)) hx hb hr (fun t ht hW => ⟨⟨(-1 : Int32), (0 : Int32), rfl, hw, by rw [ht]; exact hP, va_K.moved hW.alike hK, hD⟩, hS.F ht⟩) hS.2.2 d_M_at_26
def p_M_exact (m_wasExact : Int32) (post : Int32 → Int32 → Prop) : Prop := (narrow .boolean (.int m_wasExact) = .int m_wasExact ∧ post m_wasExact (0 : Int32))
abbrev rm_M_exact : Room := { frames := 1, cells := 0, slots := 0, locals := 40 }
set_option maxHeartbeats 4000000 in
set_option maxRecDepth 100000 in
theorem c_M_exact {l : Launch} {D : va_G} {sa : Nat → Nat} {cI cZ : ClassId} {sz : Nat} {d : Nat → Nat} {m_thrownCode : Int32} {m_places : Int32} {m_front : Int32} {m_turns : Int32} {m_fetched : Int32} {m_listed : Int32} {m_planned : Int32} {m_wasExact : Int32} {m_shelves : Int32} {m_placeOf : Nat → Int32} {m_blockedShelf : Nat → Int32} {m_on : Nat → Int32} {m_counts : Nat → Int32} {m_doors : Nat → Int32} {m_list : Nat → Int32} {m_plan : Nat → Int32} {m_shelf : Nat → Int32} {m_trial : Nat → Int32} {post : Int32 → Int32 → Prop} (hw : p_M_exact m_wasExact post) : Met l y_M_exact w_M_exact rm_M_exact (va_Pc [.ref (d 0)] (kP D sa [(cI, .int), (cZ, .boolean)] (mW d cI cZ m_thrownCode m_places m_front m_turns m_fetched m_listed m_planned m_wasExact m_shelves m_placeOf m_blockedShelf m_on m_counts m_doors m_list m_plan m_shelf m_trial) sz)) (va_Qi (fun r (u : Int32) => post r u) (fun (u : Int32) t => va_P D classes (mW d cI cZ u m_places m_front m_turns m_fetched m_listed m_planned m_wasExact m_shelves m_placeOf m_blockedShelf m_on m_counts m_doors m_list m_plan m_shelf m_trial) t.heap ∧ va_K D classes [(cI, .int), (cZ, .boolean)] t ∧ va_D (va_A (mW d cI cZ m_thrownCode m_places m_front m_turns m_fetched m_listed m_planned m_wasExact m_shelves m_placeOf m_blockedShelf m_on m_counts m_doors m_list m_plan m_shelf m_trial) sz) (mW d cI cZ u m_places m_front m_turns m_fetched m_listed m_planned m_wasExact m_shelves m_placeOf m_blockedShelf m_on m_counts m_doors m_list m_plan m_shelf m_trial)) (va_A (mW d cI cZ m_thrownCode m_places m_front m_turns m_fetched m_listed m_planned m_wasExact m_shelves m_placeOf m_blockedShelf m_on m_counts m_doors m_list m_plan m_shelf m_trial) sz)) 0 0 (va_A (mW d cI cZ m_thrownCode m_places m_front m_turns m_fetched m_listed m_planned m_wasExact m_shelves m_placeOf m_blockedShelf m_on m_counts m_doors m_list m_plan m_shelf m_trial) sz) := by
  refine Met.ofW (cc := b_M_exact) (maxL := 1) (ret := (some .boolean)) (by decide) rfl ?_
  intro p e s m args below meth c s₁ B hml hv
  obtain ⟨rfl, hsz, hP, hK, hD0, hZ⟩ := hv
  have hx := B.exec
  have hb := B.bytes
  have hr := B.returns
  have hts := atoms_spec (ws := w_M_exact) B.pre
  have hown : s.vm.findClass R_M = some m.cls := findClass_of_methodNamed B.named
  have hlocks := B.notSynchronized
  subst hsz
  have hD := hD0.self (sz := s.heap.size)
  generalize hAe : (va_A (mW d cI cZ m_thrownCode m_places m_front m_turns m_fetched m_listed m_planned m_wasExact m_shelves m_placeOf m_blockedShelf m_on m_counts m_doors m_list m_plan m_shelf m_trial) s.heap.size) = A at hD hZ ⊢
  have hA : ∀ q : Nat, s.heap.size ≤ q → A q := fun q h => by rw [← hAe]; exact Or.inr h
  have hS : va_S A s.heap s.heap [] := va_S.rf
  have hl := lv_entry ([.ref (d 0)]) (n := 1) (Nat.le_of_ble_eq_true rfl)
  rw [lg_entry_eq]
  generalize (lg_sl ([.ref (d 0)]) ++ List.replicate (1 - (lg_sl ([.ref (d 0)])).length) Slot.unset).toArray = ls at hl ⊢
  have hl : lv_has ls 1 [(0, .ref (d 0))] := hl
  refine lv_aload_n hx hb d_M_exact_0 rfl (lv_at hl 0 rfl) ?_
  refine lv_iconst (v := (0 : Int32)) hx hb d_M_exact_1 (by decide) ?_
  refine va_put (D := D) (ci := 2) (v := .int (0 : Int32)) (ty := .int) (C := R_M) (T := F_M) (N := 18) hx hb hts (iK iW_M) t_M t_M_ok n_M hown hK hP hD hS 0 rfl rfl 0 (by decide) (hts _ (kM kw_8fca7397)) (fun _ h9 => h9) rfl (by decide +kernel) rfl rfl (Nat.le_of_ble_eq_true rfl) d_M_exact_2 (fun H locs hP hD hS => ?_)
  have hP : va_P D classes (mW d cI cZ (0 : Int32) m_places m_front m_turns m_fetched m_listed m_planned m_wasExact m_shelves m_placeOf m_blockedShelf m_on m_counts m_doors m_list m_plan m_shelf m_trial) H := hP
  have hD : va_D A (mW d cI cZ (0 : Int32) m_places m_front m_turns m_fetched m_listed m_planned m_wasExact m_shelves m_placeOf m_blockedShelf m_on m_counts m_doors m_list m_plan m_shelf m_trial) := hD
  refine lv_aload_n hx hb d_M_exact_5 rfl (lv_at hl 0 rfl) ?_
  refine va_get (D := D) (ci := 2) (v := .int m_wasExact) (C := R_M) (T := F_M) (N := 18) hx hb hts (iK iW_M) hown hK hP 0 rfl rfl 14 (by decide) (hts _ (kM kw_685c8329)) (fun _ h9 => h9) rfl d_M_exact_6 ?_
  obtain ⟨h_1, hw⟩ := hw
  exact W.zret (v := m_wasExact) (ty := .boolean) hx hb hr h_1 (fun t ht hW => ⟨⟨m_wasExact, (0 : Int32), rfl, hw, by rw [ht]; exact hP, va_K.moved hW.alike hK, hD⟩, hS.F ht⟩) hS.2.2 d_M_exact_9
def p_M_clear (m_listed : Int32) (post : Int32 → Int32 → Int32 → Int32 → Int32 → Prop) : Prop := post m_listed (0 : Int32) (0 : Int32) (0 : Int32) (0 : Int32)
abbrev rm_M_clear : Room := { frames := 1, cells := 0, slots := 0, locals := 40 }
set_option maxHeartbeats 4000000 in
set_option maxRecDepth 100000 in
theorem c_M_clear {l : Launch} {D : va_G} {sa : Nat → Nat} {cI cZ : ClassId} {sz : Nat} {d : Nat → Nat} {m_thrownCode : Int32} {m_places : Int32} {m_front : Int32} {m_turns : Int32} {m_fetched : Int32} {m_listed : Int32} {m_planned : Int32} {m_wasExact : Int32} {m_shelves : Int32} {m_placeOf : Nat → Int32} {m_blockedShelf : Nat → Int32} {m_on : Nat → Int32} {m_counts : Nat → Int32} {m_doors : Nat → Int32} {m_list : Nat → Int32} {m_plan : Nat → Int32} {m_shelf : Nat → Int32} {m_trial : Nat → Int32} {post : Int32 → Int32 → Int32 → Int32 → Int32 → Prop} (hw : p_M_clear m_listed post) : Met l y_M_clear w_M_clear rm_M_clear (va_Pc [.ref (d 0)] (kP D sa [(cI, .int), (cZ, .boolean)] (mW d cI cZ m_thrownCode m_places m_front m_turns m_fetched m_listed m_planned m_wasExact m_shelves m_placeOf m_blockedShelf m_on m_counts m_doors m_list m_plan m_shelf m_trial) sz)) (va_Qi (fun r (u : Int32 × Int32 × Int32 × Int32) => post r u.1 u.2.1 u.2.2.1 u.2.2.2) (fun (u : Int32 × Int32 × Int32 × Int32) t => va_P D classes (mW d cI cZ u.1 m_places m_front m_turns m_fetched u.2.1 u.2.2.1 u.2.2.2 m_shelves m_placeOf m_blockedShelf m_on m_counts m_doors m_list m_plan m_shelf m_trial) t.heap ∧ va_K D classes [(cI, .int), (cZ, .boolean)] t ∧ va_D (va_A (mW d cI cZ m_thrownCode m_places m_front m_turns m_fetched m_listed m_planned m_wasExact m_shelves m_placeOf m_blockedShelf m_on m_counts m_doors m_list m_plan m_shelf m_trial) sz) (mW d cI cZ u.1 m_places m_front m_turns m_fetched u.2.1 u.2.2.1 u.2.2.2 m_shelves m_placeOf m_blockedShelf m_on m_counts m_doors m_list m_plan m_shelf m_trial)) (va_A (mW d cI cZ m_thrownCode m_places m_front m_turns m_fetched m_listed m_planned m_wasExact m_shelves m_placeOf m_blockedShelf m_on m_counts m_doors m_list m_plan m_shelf m_trial) sz)) 0 0 (va_A (mW d cI cZ m_thrownCode m_places m_front m_turns m_fetched m_listed m_planned m_wasExact m_shelves m_placeOf m_blockedShelf m_on m_counts m_doors m_list m_plan m_shelf m_trial) sz) := by
  refine Met.ofW (cc := b_M_clear) (maxL := 2) (ret := (some .int)) (by decide) rfl ?_
  intro p e s m args below meth c s₁ B hml hv
  obtain ⟨rfl, hsz, hP, hK, hD0, hZ⟩ := hv
  have hx := B.exec
  have hb := B.bytes
  have hr := B.returns
  have hts := atoms_spec (ws := w_M_clear) B.pre
  have hown : s.vm.findClass R_M = some m.cls := findClass_of_methodNamed B.named
  have hlocks := B.notSynchronized
  subst hsz
  have hD := hD0.self (sz := s.heap.size)
  generalize hAe : (va_A (mW d cI cZ m_thrownCode m_places m_front m_turns m_fetched m_listed m_planned m_wasExact m_shelves m_placeOf m_blockedShelf m_on m_counts m_doors m_list m_plan m_shelf m_trial) s.heap.size) = A at hD hZ ⊢
  have hA : ∀ q : Nat, s.heap.size ≤ q → A q := fun q h => by rw [← hAe]; exact Or.inr h
  have hS : va_S A s.heap s.heap [] := va_S.rf
  have hl := lv_entry ([.ref (d 0)]) (n := 2) (Nat.le_of_ble_eq_true rfl)
  rw [lg_entry_eq]
  generalize (lg_sl ([.ref (d 0)]) ++ List.replicate (2 - (lg_sl ([.ref (d 0)])).length) Slot.unset).toArray = ls at hl ⊢
  have hl : lv_has ls 2 [(0, .ref (d 0))] := hl
  refine lv_aload_n hx hb d_M_clear_0 rfl (lv_at hl 0 rfl) ?_
  refine lv_iconst (v := (0 : Int32)) hx hb d_M_clear_1 (by decide) ?_
  refine va_put (D := D) (ci := 2) (v := .int (0 : Int32)) (ty := .int) (C := R_M) (T := F_M) (N := 18) hx hb hts (iK iW_M) t_M t_M_ok n_M hown hK hP hD hS 0 rfl rfl 0 (by decide) (hts _ (kM kw_8fca7397)) (fun _ h9 => h9) rfl (by decide +kernel) rfl rfl (Nat.le_of_ble_eq_true rfl) d_M_clear_2 (fun H locs hP hD hS => ?_)
  have hP : va_P D classes (mW d cI cZ (0 : Int32) m_places m_front m_turns m_fetched m_listed m_planned m_wasExact m_shelves m_placeOf m_blockedShelf m_on m_counts m_doors m_list m_plan m_shelf m_trial) H := hP
  have hD : va_D A (mW d cI cZ (0 : Int32) m_places m_front m_turns m_fetched m_listed m_planned m_wasExact m_shelves m_placeOf m_blockedShelf m_on m_counts m_doors m_list m_plan m_shelf m_trial) := hD
  refine lv_aload_n hx hb d_M_clear_5 rfl (lv_at hl 0 rfl) ?_
  refine va_get (D := D) (ci := 2) (v := .int m_listed) (C := R_M) (T := F_M) (N := 18) hx hb hts (iK iW_M) hown hK hP 0 rfl rfl 10 (by decide) (hts _ (kM kw_e21e5c24)) (fun _ h9 => h9) rfl d_M_clear_6 ?_
  refine lv_istore_n (lv' := [(1, .int m_listed), (0, .ref (d 0))]) hx hb d_M_clear_9 rfl hl (by decide) rfl (fun ls hl => ?_)
  refine lv_aload_n hx hb d_M_clear_10 rfl (lv_at hl 1 rfl) ?_
  refine lv_iconst (v := (0 : Int32)) hx hb d_M_clear_11 (by decide) ?_
  refine va_put (D := D) (ci := 2) (v := .int (0 : Int32)) (ty := .int) (C := R_M) (T := F_M) (N := 18) hx hb hts (iK iW_M) t_M t_M_ok n_M hown hK hP hD hS 0 rfl rfl 10 (by decide) (hts _ (kM kw_e21e5c24)) (fun _ h9 => h9) rfl (by decide +kernel) rfl rfl (Nat.le_of_ble_eq_true rfl) d_M_clear_12 (fun H locs hP hD hS => ?_)
  have hP : va_P D classes (mW d cI cZ (0 : Int32) m_places m_front m_turns m_fetched (0 : Int32) m_planned m_wasExact m_shelves m_placeOf m_blockedShelf m_on m_counts m_doors m_list m_plan m_shelf m_trial) H := hP
  have hD : va_D A (mW d cI cZ (0 : Int32) m_places m_front m_turns m_fetched (0 : Int32) m_planned m_wasExact m_shelves m_placeOf m_blockedShelf m_on m_counts m_doors m_list m_plan m_shelf m_trial) := hD
  refine lv_aload_n hx hb d_M_clear_15 rfl (lv_at hl 1 rfl) ?_
  refine lv_iconst (v := (0 : Int32)) hx hb d_M_clear_16 (by decide) ?_
  refine va_put (D := D) (ci := 2) (v := .int (0 : Int32)) (ty := .int) (C := R_M) (T := F_M) (N := 18) hx hb hts (iK iW_M) t_M t_M_ok n_M hown hK hP hD hS 0 rfl rfl 12 (by decide) (hts _ (kM kw_29a007b6)) (fun _ h9 => h9) rfl (by decide +kernel) rfl rfl (Nat.le_of_ble_eq_true rfl) d_M_clear_17 (fun H locs hP hD hS => ?_)
  have hP : va_P D classes (mW d cI cZ (0 : Int32) m_places m_front m_turns m_fetched (0 : Int32) (0 : Int32) m_wasExact m_shelves m_placeOf m_blockedShelf m_on m_counts m_doors m_list m_plan m_shelf m_trial) H := hP
  have hD : va_D A (mW d cI cZ (0 : Int32) m_places m_front m_turns m_fetched (0 : Int32) (0 : Int32) m_wasExact m_shelves m_placeOf m_blockedShelf m_on m_counts m_doors m_list m_plan m_shelf m_trial) := hD
  refine lv_aload_n hx hb d_M_clear_20 rfl (lv_at hl 1 rfl) ?_
  refine lv_iconst (v := (0 : Int32)) hx hb d_M_clear_21 (by decide) ?_
  refine va_put (D := D) (ci := 2) (v := .int (0 : Int32)) (ty := .boolean) (C := R_M) (T := F_M) (N := 18) hx hb hts (iK iW_M) t_M t_M_ok n_M hown hK hP hD hS 0 rfl rfl 14 (by decide) (hts _ (kM kw_685c8329)) (fun _ h9 => h9) rfl (by decide +kernel) rfl rfl (Nat.le_of_ble_eq_true rfl) d_M_clear_22 (fun H locs hP hD hS => ?_)
  have hP : va_P D classes (mW d cI cZ (0 : Int32) m_places m_front m_turns m_fetched (0 : Int32) (0 : Int32) (0 : Int32) m_shelves m_placeOf m_blockedShelf m_on m_counts m_doors m_list m_plan m_shelf m_trial) H := hP
  have hD : va_D A (mW d cI cZ (0 : Int32) m_places m_front m_turns m_fetched (0 : Int32) (0 : Int32) (0 : Int32) m_shelves m_placeOf m_blockedShelf m_on m_counts m_doors m_list m_plan m_shelf m_trial) := hD
  refine lv_iload_n hx hb d_M_clear_25 rfl (lv_at hl 0 rfl) ?_
  exact W.iret (v := m_listed) hx hb hr (fun t ht hW => ⟨⟨m_listed, ((0 : Int32), (0 : Int32), (0 : Int32), (0 : Int32)), rfl, hw, by rw [ht]; exact hP, va_K.moved hW.alike hK, hD⟩, hS.F ht⟩) hS.2.2 d_M_clear_26
def p_M_shelfAt_L2_B (v1 : Int32) (m_places : Int32) (m_placeOf : Nat → Int32) (post : Int32 → Prop) (K_2 : Int32 → Prop) (rec_2 : Int32 → Prop) (x2_2 : Int32) : Prop := ((m_places ≤ x2_2 → K_2 x2_2) ∧ (¬ m_places ≤ x2_2 → (vp_in x2_2 24 ∧ ((¬ (m_placeOf (x2_2).toNatClampNeg) = v1 → rec_2 (x2_2 + 1)) ∧ ((m_placeOf (x2_2).toNatClampNeg) = v1 → post x2_2)))))
def p_M_shelfAt_L2 (v1 : Int32) (m_places : Int32) (m_placeOf : Nat → Int32) (post : Int32 → Prop) (K_2 : Int32 → Prop) : Nat → Int32 → Prop
  | 0 => fun _ => False
  | n + 1 => p_M_shelfAt_L2_B v1 m_places m_placeOf post K_2 (p_M_shelfAt_L2 v1 m_places m_placeOf post K_2 n)
def p_M_shelfAt (x1 : Int32) (m_places : Int32) (m_placeOf : Nat → Int32) (post : Int32 → Prop) : Prop := (∃ n, p_M_shelfAt_L2 x1 m_places m_placeOf post (fun (k_8 : Int32) => post (-1 : Int32)) n (0 : Int32))
abbrev rm_M_shelfAt : Room := { frames := 1, cells := 0, slots := 0, locals := 40 }
set_option maxHeartbeats 4000000 in
set_option maxRecDepth 100000 in
theorem c_M_shelfAt {l : Launch} {D : va_G} {sa : Nat → Nat} {cI cZ : ClassId} {sz : Nat} {d : Nat → Nat} {m_thrownCode : Int32} {m_places : Int32} {m_front : Int32} {m_turns : Int32} {m_fetched : Int32} {m_listed : Int32} {m_planned : Int32} {m_wasExact : Int32} {m_shelves : Int32} {m_placeOf : Nat → Int32} {m_blockedShelf : Nat → Int32} {m_on : Nat → Int32} {m_counts : Nat → Int32} {m_doors : Nat → Int32} {m_list : Nat → Int32} {m_plan : Nat → Int32} {m_shelf : Nat → Int32} {m_trial : Nat → Int32} {x1 : Int32} {post : Int32 → Prop} (hw : p_M_shelfAt x1 m_places m_placeOf post) : Met l y_M_shelfAt w_M_shelfAt rm_M_shelfAt (va_Pc [.ref (d 0), .int x1] (kP D sa [(cI, .int), (cZ, .boolean)] (mW d cI cZ m_thrownCode m_places m_front m_turns m_fetched m_listed m_planned m_wasExact m_shelves m_placeOf m_blockedShelf m_on m_counts m_doors m_list m_plan m_shelf m_trial) sz)) (vp_Si post) 0 0 (fun _ => False) := by
  refine Met.ofW (cc := b_M_shelfAt) (maxL := 3) (ret := (some .int)) (by decide) rfl ?_
  intro p e s m args below meth c s₁ B hml hv
  obtain ⟨rfl, hsz, hP, hK, hD0, hZ⟩ := hv
  have hx := B.exec
  have hb := B.bytes
  have hr := B.returns
  have hts := atoms_spec (ws := w_M_shelfAt) B.pre
  have hown : s.vm.findClass R_M = some m.cls := findClass_of_methodNamed B.named
  have hlocks := B.notSynchronized
  subst hsz
  have hD := hD0.self (sz := s.heap.size)
  generalize hAe : (va_A (mW d cI cZ m_thrownCode m_places m_front m_turns m_fetched m_listed m_planned m_wasExact m_shelves m_placeOf m_blockedShelf m_on m_counts m_doors m_list m_plan m_shelf m_trial) s.heap.size) = A at hD hZ
  have hA : ∀ q : Nat, s.heap.size ≤ q → A q := fun q h => by rw [← hAe]; exact Or.inr h
  have hS : va_S A s.heap s.heap [] := va_S.rf
  have hl := lv_entry ([.ref (d 0), .int x1]) (n := 3) (Nat.le_of_ble_eq_true rfl)
  rw [lg_entry_eq]
  generalize (lg_sl ([.ref (d 0), .int x1]) ++ List.replicate (3 - (lg_sl ([.ref (d 0), .int x1])).length) Slot.unset).toArray = ls at hl ⊢
  have hl : lv_has ls 3 [(0, .ref (d 0)), (1, .int x1)] := hl
  refine lv_iconst (v := (0 : Int32)) hx hb d_M_shelfAt_0 (by decide) ?_
  refine lv_istore_n (lv' := [(2, .int (0 : Int32)), (0, .ref (d 0)), (1, .int x1)]) hx hb d_M_shelfAt_1 rfl hl (by decide) rfl (fun ls hl => ?_)
  obtain ⟨K_2, hK_2⟩ : ∃ z : Int32 → Prop, z = (fun (k_8 : Int32) => post (-1 : Int32)) := ⟨_, rfl⟩
  have hw : ∃ n, p_M_shelfAt_L2 x1 m_places m_placeOf post K_2 n (0 : Int32) := by rw [hK_2]; exact hw
  obtain ⟨n_2, hw⟩ := hw
  have key_2 : ∀ (n : Nat) (x2_4 : Int32) (ls : Array Slot), p_M_shelfAt_L2 x1 m_places m_placeOf post K_2 n x2_4 → lv_has ls 3 [(2, .int x2_4), (0, .ref (d 0)), (1, .int x1)] → W p l e (headSpec w_M_shelfAt rm_M_shelfAt).room s m ([.ref (d 0), .int x1] : List Value).toArray below meth c s.heap [] 0 0 (MQ below (vp_Si post) ([.ref (d 0), .int x1] : List Value).toArray s 0 0 (fun _ => False)) (F0 m 2 ls []) := by
    intro n
    induction n with
    | zero => intro x2_4 ls hw hl; exact hw.elim
    | succ n ih_2 =>
      intro x2_4 ls hw hl
      have hw : p_M_shelfAt_L2_B x1 m_places m_placeOf post K_2 (p_M_shelfAt_L2 x1 m_places m_placeOf post K_2 n) x2_4 := hw
      generalize p_M_shelfAt_L2 x1 m_places m_placeOf post K_2 n = rec_2 at hw ih_2
      refine lv_iload_n hx hb d_M_shelfAt_2 rfl (lv_at hl 0 rfl) ?_
      refine lv_aload_n hx hb d_M_shelfAt_3 rfl (lv_at hl 1 rfl) ?_
      refine va_get (D := D) (ci := 2) (v := .int m_places) (C := R_M) (T := F_M) (N := 18) hx hb hts (iK iW_M) hown hK hP 0 rfl rfl 1 (by decide) (hts _ (kM kw_7139d127)) (fun _ h9 => h9) rfl d_M_shelfAt_4 ?_
      refine lv_icmp_ge (tgt := 28) hx hb d_M_shelfAt_7 (by decide) (fun c_5 => ?_) (fun c_5 => ?_)
      · have hw := hw.1 c_5
        rw [hK_2] at hw
        have hl : lv_has ls 3 [(2, .int x2_4), (0, .ref (d 0)), (1, .int x1)] := lv_sub hl [0, 1, 2] rfl
        refine lv_iconst (v := (-1 : Int32)) hx hb d_M_shelfAt_28 (by decide) ?_
        exact W.iret (v := (-1 : Int32)) hx hb hr (fun t ht _ => ⟨(-1 : Int32), rfl, hw, ht⟩) (by simp) d_M_shelfAt_29
      · have hw := hw.2 c_5
        refine lv_aload_n hx hb d_M_shelfAt_10 rfl (lv_at hl 1 rfl) ?_
        refine va_get (D := D) (ci := 2) (v := .ref (d 1)) (C := R_M) (T := F_M) (N := 18) hx hb hts (iK iW_M) hown hK hP 0 rfl rfl 3 (by decide) (hts _ (kM kw_1dda6185)) (fun _ h9 => h9) rfl d_M_shelfAt_11 ?_
        refine lv_iload_n hx hb d_M_shelfAt_14 rfl (lv_at hl 0 rfl) ?_
        obtain ⟨h_6, hw⟩ := hw
        refine va_iald hx hb hK hP 1 0 rfl rfl h_6 d_M_shelfAt_15 ?_
        refine lv_iload_n hx hb d_M_shelfAt_16 rfl (lv_at hl 2 rfl) ?_
        refine lv_icmp_ne (tgt := 22) hx hb d_M_shelfAt_17 (by decide) (fun c_7 => ?_) (fun c_7 => ?_)
        · have hw := hw.1 c_7
          refine lv_iinc (v := (x2_4 + 1)) (lv' := [(2, .int (x2_4 + 1)), (0, .ref (d 0)), (1, .int x1)]) hx hb d_M_shelfAt_22 hl (k := 0) rfl rfl (by decide) rfl (fun ls hl => ?_)
          refine lv_goto (tgt := 2) hx hb d_M_shelfAt_25 (by decide) ?_
          exact ih_2 (x2_4 + 1) _ hw (lv_sub hl [0, 1, 2] rfl)
        · have hw := hw.2 c_7
          refine lv_iload_n hx hb d_M_shelfAt_20 rfl (lv_at hl 0 rfl) ?_
          exact W.iret (v := x2_4) hx hb hr (fun t ht _ => ⟨x2_4, rfl, hw, ht⟩) (by simp) d_M_shelfAt_21
  exact key_2 n_2 (0 : Int32) _ hw (lv_sub hl [0, 1, 2] rfl)
def p_M_pick (x1 : Int32) (x2 : Int32) (m_places : Int32) (m_front : Int32) (m_fetched : Int32) (m_placeOf : Nat → Int32) (m_blockedShelf : Nat → Int32) (m_on : Nat → Int32) (m_counts : Nat → Int32) (m_doors : Nat → Int32) (post : Int32 → Int32 → Int32 → (Nat → Int32) → (Nat → Int32) → Prop) : Prop := ((¬ m_places = 0 → (p_M_none x1 (20 : Int32) (fun r_2 => ((¬ r_2 = 0 → post (0 : Int32) (2 : Int32) m_fetched m_on m_counts) ∧ (r_2 = 0 → (p_M_none x2 (2 : Int32) (fun r_5 => ((r_5 = 0 → (vp_in x2 2 ∧ (((m_doors (x2).toNatClampNeg) = 0 → post (0 : Int32) (3 : Int32) m_fetched m_on m_counts) ∧ (¬ (m_doors (x2).toNatClampNeg) = 0 → (p_M_shelfAt m_front m_places m_placeOf (fun r_10 => (vp_in r_10 24 ∧ (((m_blockedShelf (r_10).toNatClampNeg) = 0 → (vp_in x1 20 ∧ (p_M_shelfAt m_front m_places m_placeOf (fun r_15 => (((m_on (x1).toNatClampNeg) = r_15 → (vp_in x1 20 ∧ (vp_in x1 20 ∧ (vp_in x1 20 ∧ post (1 : Int32) (0 : Int32) (m_fetched + (1 : Int32)) (upd m_on (x1).toNatClampNeg (-1 : Int32)) (upd m_counts (x1).toNatClampNeg ((m_counts (x1).toNatClampNeg) + (64 : Int32))))))) ∧ (¬ (m_on (x1).toNatClampNeg) = r_15 → post (0 : Int32) (0 : Int32) m_fetched m_on m_counts)))))) ∧ (¬ (m_blockedShelf (r_10).toNatClampNeg) = 0 → post (0 : Int32) (3 : Int32) m_fetched m_on m_counts))))))))) ∧ (¬ r_5 = 0 → post (0 : Int32) (2 : Int32) m_fetched m_on m_counts))))))))) ∧ (m_places = 0 → post (0 : Int32) (1 : Int32) m_fetched m_on m_counts))
abbrev rm_M_pick : Room := { frames := 2, cells := 0, slots := 0, locals := 62 }
set_option maxHeartbeats 4000000 in
set_option maxRecDepth 100000 in
theorem c_M_pick {l : Launch} {D : va_G} {sa : Nat → Nat} {cI cZ : ClassId} {sz : Nat} {d : Nat → Nat} {m_thrownCode : Int32} {m_places : Int32} {m_front : Int32} {m_turns : Int32} {m_fetched : Int32} {m_listed : Int32} {m_planned : Int32} {m_wasExact : Int32} {m_shelves : Int32} {m_placeOf : Nat → Int32} {m_blockedShelf : Nat → Int32} {m_on : Nat → Int32} {m_counts : Nat → Int32} {m_doors : Nat → Int32} {m_list : Nat → Int32} {m_plan : Nat → Int32} {m_shelf : Nat → Int32} {m_trial : Nat → Int32} {x1 : Int32} {x2 : Int32} {post : Int32 → Int32 → Int32 → (Nat → Int32) → (Nat → Int32) → Prop} (hw : p_M_pick x1 x2 m_places m_front m_fetched m_placeOf m_blockedShelf m_on m_counts m_doors post) : Met l y_M_pick w_M_pick rm_M_pick (va_Pc [.ref (d 0), .int x1, .int x2] (kP D sa [(cI, .int), (cZ, .boolean)] (mW d cI cZ m_thrownCode m_places m_front m_turns m_fetched m_listed m_planned m_wasExact m_shelves m_placeOf m_blockedShelf m_on m_counts m_doors m_list m_plan m_shelf m_trial) sz)) (va_Qi (fun r (u : Int32 × Int32 × (Nat → Int32) × (Nat → Int32)) => post r u.1 u.2.1 u.2.2.1 u.2.2.2) (fun (u : Int32 × Int32 × (Nat → Int32) × (Nat → Int32)) t => va_P D classes (mW d cI cZ u.1 m_places m_front m_turns u.2.1 m_listed m_planned m_wasExact m_shelves m_placeOf m_blockedShelf u.2.2.1 u.2.2.2 m_doors m_list m_plan m_shelf m_trial) t.heap ∧ va_K D classes [(cI, .int), (cZ, .boolean)] t ∧ va_D (va_A (mW d cI cZ m_thrownCode m_places m_front m_turns m_fetched m_listed m_planned m_wasExact m_shelves m_placeOf m_blockedShelf m_on m_counts m_doors m_list m_plan m_shelf m_trial) sz) (mW d cI cZ u.1 m_places m_front m_turns u.2.1 m_listed m_planned m_wasExact m_shelves m_placeOf m_blockedShelf u.2.2.1 u.2.2.2 m_doors m_list m_plan m_shelf m_trial)) (va_A (mW d cI cZ m_thrownCode m_places m_front m_turns m_fetched m_listed m_planned m_wasExact m_shelves m_placeOf m_blockedShelf m_on m_counts m_doors m_list m_plan m_shelf m_trial) sz)) 0 0 (va_A (mW d cI cZ m_thrownCode m_places m_front m_turns m_fetched m_listed m_planned m_wasExact m_shelves m_placeOf m_blockedShelf m_on m_counts m_doors m_list m_plan m_shelf m_trial) sz) := by
  refine Met.ofW (cc := b_M_pick) (maxL := 3) (ret := (some .boolean)) (by decide) rfl ?_
  intro p e s m args below meth c s₁ B hml hv
  obtain ⟨rfl, hsz, hP, hK, hD0, hZ⟩ := hv
  have hx := B.exec
  have hb := B.bytes
  have hr := B.returns
  have hts := atoms_spec (ws := w_M_pick) B.pre
  have hown : s.vm.findClass R_M = some m.cls := findClass_of_methodNamed B.named
  have hlocks := B.notSynchronized
  subst hsz
  have hD := hD0.self (sz := s.heap.size)
  generalize hAe : (va_A (mW d cI cZ m_thrownCode m_places m_front m_turns m_fetched m_listed m_planned m_wasExact m_shelves m_placeOf m_blockedShelf m_on m_counts m_doors m_list m_plan m_shelf m_trial) s.heap.size) = A at hD hZ ⊢
  have hA : ∀ q : Nat, s.heap.size ≤ q → A q := fun q h => by rw [← hAe]; exact Or.inr h
  have hS : va_S A s.heap s.heap [] := va_S.rf
  have hl := lv_entry ([.ref (d 0), .int x1, .int x2]) (n := 3) (Nat.le_of_ble_eq_true rfl)
  rw [lg_entry_eq]
  generalize (lg_sl ([.ref (d 0), .int x1, .int x2]) ++ List.replicate (3 - (lg_sl ([.ref (d 0), .int x1, .int x2])).length) Slot.unset).toArray = ls at hl ⊢
  have hl : lv_has ls 3 [(0, .ref (d 0)), (1, .int x1), (2, .int x2)] := hl
  refine lv_aload_n hx hb d_M_pick_0 rfl (lv_at hl 0 rfl) ?_
  refine lv_aload_n hx hb d_M_pick_1 rfl (lv_at hl 0 rfl) ?_
  refine va_get (D := D) (ci := 2) (v := .int m_places) (C := R_M) (T := F_M) (N := 18) hx hb hts (iK iW_M) hown hK hP 0 rfl rfl 1 (by decide) (hts _ (kM kw_7139d127)) (fun _ h9 => h9) rfl d_M_pick_2 ?_
  refine lv_if_ne (tgt := 12) hx hb d_M_pick_5 (by decide) (fun c_1 => ?_) (fun c_1 => ?_)
  · have hw := hw.1 c_1
    refine lv_iload_n hx hb d_M_pick_12 rfl (lv_at hl 1 rfl) ?_
    refine lv_bipush (v := (20 : Int32)) hx hb d_M_pick_13 (by decide) ?_
    have hPc := hP.sub (ws' := []) [] rfl
    have hDc := hD.sub (ws' := []) [] (by decide) rfl
    have hFc := va_free (wc := []) hD hS hA [] rfl
    refine vp_callSi (W.runS (As := [.int x1, .int (20 : Int32)]) (rest := [.ref (d 0)]) ⟨hx, hb, hml, hown, hts⟩ (c_M_none hw) (cwS 2 hts (gS k_M_none kw_344abd76 kw_8e7adc0a kw_98028344) rfl rfl rfl (by decide +kernel) ⟨(Nat.le_of_ble_eq_true rfl), (Nat.le_of_ble_eq_true rfl)⟩) ⟨kP.blind, kP.of hK hPc hDc hZ hS hFc⟩ rfl rfl hl.1 rfl (lv_room (Nat.le_of_ble_eq_true rfl)) d_M_pick_15 ⟨(Nat.le_of_ble_eq_true rfl), (Nat.le_of_ble_eq_true rfl)⟩) (fun r_2 hw => ?_)
    refine lv_if_ne (tgt := 29) hx hb d_M_pick_18 (by decide) (fun c_3 => ?_) (fun c_3 => ?_)
    · have hw := hw.1 c_3
      refine lv_iconst (v := (2 : Int32)) hx hb d_M_pick_29 (by decide) ?_
      refine lv_goto (tgt := 63) hx hb d_M_pick_30 (by decide) ?_
      refine va_put (D := D) (ci := 2) (v := .int (2 : Int32)) (ty := .int) (C := R_M) (T := F_M) (N := 18) hx hb hts (iK iW_M) t_M t_M_ok n_M hown hK hP hD hS 0 rfl rfl 0 (by decide) (hts _ (kM kw_8fca7397)) (fun _ h9 => h9) rfl (by decide +kernel) rfl rfl (Nat.le_of_ble_eq_true rfl) d_M_pick_63 (fun H locs hP hD hS => ?_)
      have hP : va_P D classes (mW d cI cZ (2 : Int32) m_places m_front m_turns m_fetched m_listed m_planned m_wasExact m_shelves m_placeOf m_blockedShelf m_on m_counts m_doors m_list m_plan m_shelf m_trial) H := hP
      have hD : va_D A (mW d cI cZ (2 : Int32) m_places m_front m_turns m_fetched m_listed m_planned m_wasExact m_shelves m_placeOf m_blockedShelf m_on m_counts m_doors m_list m_plan m_shelf m_trial) := hD
      refine lv_aload_n hx hb d_M_pick_66 rfl (lv_at hl 0 rfl) ?_
      refine va_get (D := D) (ci := 2) (v := .int (2 : Int32)) (C := R_M) (T := F_M) (N := 18) hx hb hts (iK iW_M) hown hK hP 0 rfl rfl 0 (by decide) (hts _ (kM kw_8fca7397)) (fun _ h9 => h9) rfl d_M_pick_67 ?_
      refine lv_if_ne (tgt := 90) hx hb d_M_pick_70 (by decide) (fun c_4 => ?_) (fun c_4 => absurd c_4 (by decide))
      refine lv_iconst (v := (0 : Int32)) hx hb d_M_pick_90 (by decide) ?_
      exact W.zret (v := (0 : Int32)) (ty := .boolean) hx hb hr rfl (fun t ht hW => ⟨⟨(0 : Int32), ((2 : Int32), m_fetched, m_on, m_counts), rfl, hw, by rw [ht]; exact hP, va_K.moved hW.alike hK, hD⟩, hS.F ht⟩) hS.2.2 d_M_pick_91
    · have hw := hw.2 c_3
      refine lv_iload_n hx hb d_M_pick_21 rfl (lv_at hl 2 rfl) ?_
      refine lv_iconst (v := (2 : Int32)) hx hb d_M_pick_22 (by decide) ?_
      have hPc := hP.sub (ws' := []) [] rfl
      have hDc := hD.sub (ws' := []) [] (by decide) rfl
      have hFc := va_free (wc := []) hD hS hA [] rfl
      refine vp_callSi (W.runS (As := [.int x2, .int (2 : Int32)]) (rest := [.ref (d 0)]) ⟨hx, hb, hml, hown, hts⟩ (c_M_none hw) (cwS 2 hts (gS k_M_none kw_344abd76 kw_8e7adc0a kw_98028344) rfl rfl rfl (by decide +kernel) ⟨(Nat.le_of_ble_eq_true rfl), (Nat.le_of_ble_eq_true rfl)⟩) ⟨kP.blind, kP.of hK hPc hDc hZ hS hFc⟩ rfl rfl hl.1 rfl (lv_room (Nat.le_of_ble_eq_true rfl)) d_M_pick_23 ⟨(Nat.le_of_ble_eq_true rfl), (Nat.le_of_ble_eq_true rfl)⟩) (fun r_5 hw => ?_)
      refine lv_if_eq (tgt := 33) hx hb d_M_pick_26 (by decide) (fun c_6 => ?_) (fun c_6 => ?_)
      · have hw := hw.1 c_6
        refine lv_aload_n hx hb d_M_pick_33 rfl (lv_at hl 0 rfl) ?_
        refine va_get (D := D) (ci := 2) (v := .ref (d 5)) (C := R_M) (T := F_M) (N := 18) hx hb hts (iK iW_M) hown hK hP 0 rfl rfl 7 (by decide) (hts _ (kM kw_e8c36500)) (fun _ h9 => h9) rfl d_M_pick_34 ?_
        refine lv_iload_n hx hb d_M_pick_37 rfl (lv_at hl 2 rfl) ?_
        obtain ⟨h_7, hw⟩ := hw
        refine va_zald hx hb hK hP 5 1 rfl rfl h_7 d_M_pick_38 ?_
        refine lv_if_eq (tgt := 58) hx hb d_M_pick_39 (by decide) (fun c_8 => ?_) (fun c_8 => ?_)
        · have hw := hw.1 c_8
          refine lv_iconst (v := (3 : Int32)) hx hb d_M_pick_58 (by decide) ?_
          refine lv_goto (tgt := 63) hx hb d_M_pick_59 (by decide) ?_
          refine va_put (D := D) (ci := 2) (v := .int (3 : Int32)) (ty := .int) (C := R_M) (T := F_M) (N := 18) hx hb hts (iK iW_M) t_M t_M_ok n_M hown hK hP hD hS 0 rfl rfl 0 (by decide) (hts _ (kM kw_8fca7397)) (fun _ h9 => h9) rfl (by decide +kernel) rfl rfl (Nat.le_of_ble_eq_true rfl) d_M_pick_63 (fun H locs hP hD hS => ?_)
          have hP : va_P D classes (mW d cI cZ (3 : Int32) m_places m_front m_turns m_fetched m_listed m_planned m_wasExact m_shelves m_placeOf m_blockedShelf m_on m_counts m_doors m_list m_plan m_shelf m_trial) H := hP
          have hD : va_D A (mW d cI cZ (3 : Int32) m_places m_front m_turns m_fetched m_listed m_planned m_wasExact m_shelves m_placeOf m_blockedShelf m_on m_counts m_doors m_list m_plan m_shelf m_trial) := hD
          refine lv_aload_n hx hb d_M_pick_66 rfl (lv_at hl 0 rfl) ?_
          refine va_get (D := D) (ci := 2) (v := .int (3 : Int32)) (C := R_M) (T := F_M) (N := 18) hx hb hts (iK iW_M) hown hK hP 0 rfl rfl 0 (by decide) (hts _ (kM kw_8fca7397)) (fun _ h9 => h9) rfl d_M_pick_67 ?_
          refine lv_if_ne (tgt := 90) hx hb d_M_pick_70 (by decide) (fun c_9 => ?_) (fun c_9 => absurd c_9 (by decide))
          refine lv_iconst (v := (0 : Int32)) hx hb d_M_pick_90 (by decide) ?_
          exact W.zret (v := (0 : Int32)) (ty := .boolean) hx hb hr rfl (fun t ht hW => ⟨⟨(0 : Int32), ((3 : Int32), m_fetched, m_on, m_counts), rfl, hw, by rw [ht]; exact hP, va_K.moved hW.alike hK, hD⟩, hS.F ht⟩) hS.2.2 d_M_pick_91
        · have hw := hw.2 c_8
          refine lv_aload_n hx hb d_M_pick_42 rfl (lv_at hl 0 rfl) ?_
          refine va_get (D := D) (ci := 2) (v := .ref (d 2)) (C := R_M) (T := F_M) (N := 18) hx hb hts (iK iW_M) hown hK hP 0 rfl rfl 4 (by decide) (hts _ (kM kw_f6907c18)) (fun _ h9 => h9) rfl d_M_pick_43 ?_
          refine lv_aload_n hx hb d_M_pick_46 rfl (lv_at hl 0 rfl) ?_
          refine lv_aload_n hx hb d_M_pick_47 rfl (lv_at hl 0 rfl) ?_
          refine va_get (D := D) (ci := 2) (v := .int m_front) (C := R_M) (T := F_M) (N := 18) hx hb hts (iK iW_M) hown hK hP 0 rfl rfl 2 (by decide) (hts _ (kM kw_6549c401)) (fun _ h9 => h9) rfl d_M_pick_48 ?_
          have hPc := hP
          have hDc := hD
          have hFc := va_free (wc := mW d cI cZ m_thrownCode m_places m_front m_turns m_fetched m_listed m_planned m_wasExact m_shelves m_placeOf m_blockedShelf m_on m_counts m_doors m_list m_plan m_shelf m_trial) hD hS hA [0, 1, 2, 3, 4, 5, 6, 7, 8, 9] rfl
          refine vp_callSi (W.runV (As := [.int m_front]) (rest := [.ref (d 2), .ref (d 0)]) ⟨hx, hb, hml, hown, hts⟩ (c_M_shelfAt hw) (cwV 1 hts (gV k_M_shelfAt kw_def9765c kw_e1efd25d kw_ec64152f kw_98028344) rfl rfl rfl (by decide +kernel) ⟨(Nat.le_of_ble_eq_true rfl), (Nat.le_of_ble_eq_true rfl)⟩) ⟨kP.blind, va_recv hK hPc (ci := 2) (q0 := 0) rfl rfl, kP.of hK hPc hDc hZ hS hFc⟩ rfl rfl hl.1 rfl (lv_room (Nat.le_of_ble_eq_true rfl)) d_M_pick_51 ⟨(Nat.le_of_ble_eq_true rfl), (Nat.le_of_ble_eq_true rfl)⟩) (fun r_10 hw => ?_)
          obtain ⟨h_11, hw⟩ := hw
          refine va_zald hx hb hK hP 2 1 rfl rfl h_11 d_M_pick_54 ?_
          refine lv_if_eq (tgt := 62) hx hb d_M_pick_55 (by decide) (fun c_12 => ?_) (fun c_12 => ?_)
          · have hw := hw.1 c_12
            refine lv_iconst (v := (0 : Int32)) hx hb d_M_pick_62 (by decide) ?_
            refine va_put (D := D) (ci := 2) (v := .int (0 : Int32)) (ty := .int) (C := R_M) (T := F_M) (N := 18) hx hb hts (iK iW_M) t_M t_M_ok n_M hown hK hP hD hS 0 rfl rfl 0 (by decide) (hts _ (kM kw_8fca7397)) (fun _ h9 => h9) rfl (by decide +kernel) rfl rfl (Nat.le_of_ble_eq_true rfl) d_M_pick_63 (fun H locs hP hD hS => ?_)
            have hP : va_P D classes (mW d cI cZ (0 : Int32) m_places m_front m_turns m_fetched m_listed m_planned m_wasExact m_shelves m_placeOf m_blockedShelf m_on m_counts m_doors m_list m_plan m_shelf m_trial) H := hP
            have hD : va_D A (mW d cI cZ (0 : Int32) m_places m_front m_turns m_fetched m_listed m_planned m_wasExact m_shelves m_placeOf m_blockedShelf m_on m_counts m_doors m_list m_plan m_shelf m_trial) := hD
            refine lv_aload_n hx hb d_M_pick_66 rfl (lv_at hl 0 rfl) ?_
            refine va_get (D := D) (ci := 2) (v := .int (0 : Int32)) (C := R_M) (T := F_M) (N := 18) hx hb hts (iK iW_M) hown hK hP 0 rfl rfl 0 (by decide) (hts _ (kM kw_8fca7397)) (fun _ h9 => h9) rfl d_M_pick_67 ?_
            refine lv_if_ne (tgt := 90) hx hb d_M_pick_70 (by decide) (fun c_13 => absurd c_13 (by decide)) (fun c_13 => ?_)
            refine lv_aload_n hx hb d_M_pick_73 rfl (lv_at hl 0 rfl) ?_
            refine va_get (D := D) (ci := 2) (v := .ref (d 3)) (C := R_M) (T := F_M) (N := 18) hx hb hts (iK iW_M) hown hK hP 0 rfl rfl 5 (by decide) (hts _ (kM kw_7ca6b28c)) (fun _ h9 => h9) rfl d_M_pick_74 ?_
            refine lv_iload_n hx hb d_M_pick_77 rfl (lv_at hl 1 rfl) ?_
            obtain ⟨h_14, hw⟩ := hw
            refine va_iald hx hb hK hP 3 0 rfl rfl h_14 d_M_pick_78 ?_
            refine lv_aload_n hx hb d_M_pick_79 rfl (lv_at hl 0 rfl) ?_
            refine lv_aload_n hx hb d_M_pick_80 rfl (lv_at hl 0 rfl) ?_
            refine va_get (D := D) (ci := 2) (v := .int m_front) (C := R_M) (T := F_M) (N := 18) hx hb hts (iK iW_M) hown hK hP 0 rfl rfl 2 (by decide) (hts _ (kM kw_6549c401)) (fun _ h9 => h9) rfl d_M_pick_81 ?_
            have hPc := hP
            have hDc := hD
            have hFc := va_free (wc := mW d cI cZ (0 : Int32) m_places m_front m_turns m_fetched m_listed m_planned m_wasExact m_shelves m_placeOf m_blockedShelf m_on m_counts m_doors m_list m_plan m_shelf m_trial) hD hS hA [0, 1, 2, 3, 4, 5, 6, 7, 8, 9] rfl
            refine vp_callSi (W.runV (As := [.int m_front]) (rest := [.int (m_on (x1).toNatClampNeg)]) ⟨hx, hb, hml, hown, hts⟩ (c_M_shelfAt hw) (cwV 1 hts (gV k_M_shelfAt kw_def9765c kw_e1efd25d kw_ec64152f kw_98028344) rfl rfl rfl (by decide +kernel) ⟨(Nat.le_of_ble_eq_true rfl), (Nat.le_of_ble_eq_true rfl)⟩) ⟨kP.blind, va_recv hK hPc (ci := 2) (q0 := 0) rfl rfl, kP.of hK hPc hDc hZ hS hFc⟩ rfl rfl hl.1 rfl (lv_room (Nat.le_of_ble_eq_true rfl)) d_M_pick_84 ⟨(Nat.le_of_ble_eq_true rfl), (Nat.le_of_ble_eq_true rfl)⟩) (fun r_15 hw => ?_)
            refine lv_icmp_eq (tgt := 92) hx hb d_M_pick_87 (by decide) (fun c_16 => ?_) (fun c_16 => ?_)
            · have hw := hw.1 c_16
              refine lv_aload_n hx hb d_M_pick_92 rfl (lv_at hl 0 rfl) ?_
              refine va_get (D := D) (ci := 2) (v := .ref (d 3)) (C := R_M) (T := F_M) (N := 18) hx hb hts (iK iW_M) hown hK hP 0 rfl rfl 5 (by decide) (hts _ (kM kw_7ca6b28c)) (fun _ h9 => h9) rfl d_M_pick_93 ?_
              refine lv_iload_n hx hb d_M_pick_96 rfl (lv_at hl 1 rfl) ?_
              refine lv_iconst (v := (-1 : Int32)) hx hb d_M_pick_97 (by decide) ?_
              obtain ⟨h_17, hw⟩ := hw
              refine va_iast hx hb hK hP hD hS 3 0 rfl rfl h_17 d_M_pick_98 (fun H locs hP hD hS => ?_)
              have hP : va_P D classes (mW d cI cZ (0 : Int32) m_places m_front m_turns m_fetched m_listed m_planned m_wasExact m_shelves m_placeOf m_blockedShelf (upd m_on (x1).toNatClampNeg (-1 : Int32)) m_counts m_doors m_list m_plan m_shelf m_trial) H := hP
              have hD : va_D A (mW d cI cZ (0 : Int32) m_places m_front m_turns m_fetched m_listed m_planned m_wasExact m_shelves m_placeOf m_blockedShelf (upd m_on (x1).toNatClampNeg (-1 : Int32)) m_counts m_doors m_list m_plan m_shelf m_trial) := hD
              refine lv_aload_n hx hb d_M_pick_99 rfl (lv_at hl 0 rfl) ?_
              refine va_get (D := D) (ci := 2) (v := .ref (d 4)) (C := R_M) (T := F_M) (N := 18) hx hb hts (iK iW_M) hown hK hP 0 rfl rfl 6 (by decide) (hts _ (kM kw_0595da16)) (fun _ h9 => h9) rfl d_M_pick_100 ?_
              refine lv_iload_n hx hb d_M_pick_103 rfl (lv_at hl 1 rfl) ?_
              refine lv_aload_n hx hb d_M_pick_104 rfl (lv_at hl 0 rfl) ?_
              refine va_get (D := D) (ci := 2) (v := .ref (d 4)) (C := R_M) (T := F_M) (N := 18) hx hb hts (iK iW_M) hown hK hP 0 rfl rfl 6 (by decide) (hts _ (kM kw_0595da16)) (fun _ h9 => h9) rfl d_M_pick_105 ?_
              refine lv_iload_n hx hb d_M_pick_108 rfl (lv_at hl 1 rfl) ?_
              obtain ⟨h_18, hw⟩ := hw
              refine va_iald hx hb hK hP 4 0 rfl rfl h_18 d_M_pick_109 ?_
              refine lv_bipush (v := (64 : Int32)) hx hb d_M_pick_110 (by decide) ?_
              refine lv_iadd hx hb d_M_pick_112 ?_
              obtain ⟨h_19, hw⟩ := hw
              refine va_iast hx hb hK hP hD hS 4 0 rfl rfl h_19 d_M_pick_113 (fun H locs hP hD hS => ?_)
              have hP : va_P D classes (mW d cI cZ (0 : Int32) m_places m_front m_turns m_fetched m_listed m_planned m_wasExact m_shelves m_placeOf m_blockedShelf (upd m_on (x1).toNatClampNeg (-1 : Int32)) (upd m_counts (x1).toNatClampNeg ((m_counts (x1).toNatClampNeg) + (64 : Int32))) m_doors m_list m_plan m_shelf m_trial) H := hP
              have hD : va_D A (mW d cI cZ (0 : Int32) m_places m_front m_turns m_fetched m_listed m_planned m_wasExact m_shelves m_placeOf m_blockedShelf (upd m_on (x1).toNatClampNeg (-1 : Int32)) (upd m_counts (x1).toNatClampNeg ((m_counts (x1).toNatClampNeg) + (64 : Int32))) m_doors m_list m_plan m_shelf m_trial) := hD
              refine lv_aload_n hx hb d_M_pick_114 rfl (lv_at hl 0 rfl) ?_
              refine lv_dup hx hb d_M_pick_115 rfl ?_
              refine va_get (D := D) (ci := 2) (v := .int m_fetched) (C := R_M) (T := F_M) (N := 18) hx hb hts (iK iW_M) hown hK hP 0 rfl rfl 9 (by decide) (hts _ (kM kw_1cf9ce30)) (fun _ h9 => h9) rfl d_M_pick_116 ?_
              refine lv_iconst (v := (1 : Int32)) hx hb d_M_pick_119 (by decide) ?_
              refine lv_iadd hx hb d_M_pick_120 ?_
              refine va_put (D := D) (ci := 2) (v := .int (m_fetched + (1 : Int32))) (ty := .int) (C := R_M) (T := F_M) (N := 18) hx hb hts (iK iW_M) t_M t_M_ok n_M hown hK hP hD hS 0 rfl rfl 9 (by decide) (hts _ (kM kw_1cf9ce30)) (fun _ h9 => h9) rfl (by decide +kernel) rfl rfl (Nat.le_of_ble_eq_true rfl) d_M_pick_121 (fun H locs hP hD hS => ?_)
              have hP : va_P D classes (mW d cI cZ (0 : Int32) m_places m_front m_turns (m_fetched + (1 : Int32)) m_listed m_planned m_wasExact m_shelves m_placeOf m_blockedShelf (upd m_on (x1).toNatClampNeg (-1 : Int32)) (upd m_counts (x1).toNatClampNeg ((m_counts (x1).toNatClampNeg) + (64 : Int32))) m_doors m_list m_plan m_shelf m_trial) H := hP
              have hD : va_D A (mW d cI cZ (0 : Int32) m_places m_front m_turns (m_fetched + (1 : Int32)) m_listed m_planned m_wasExact m_shelves m_placeOf m_blockedShelf (upd m_on (x1).toNatClampNeg (-1 : Int32)) (upd m_counts (x1).toNatClampNeg ((m_counts (x1).toNatClampNeg) + (64 : Int32))) m_doors m_list m_plan m_shelf m_trial) := hD
              refine lv_iconst (v := (1 : Int32)) hx hb d_M_pick_124 (by decide) ?_
              exact W.zret (v := (1 : Int32)) (ty := .boolean) hx hb hr rfl (fun t ht hW => ⟨⟨(1 : Int32), ((0 : Int32), (m_fetched + (1 : Int32)), (upd m_on (x1).toNatClampNeg (-1 : Int32)), (upd m_counts (x1).toNatClampNeg ((m_counts (x1).toNatClampNeg) + (64 : Int32)))), rfl, hw, by rw [ht]; exact hP, va_K.moved hW.alike hK, hD⟩, hS.F ht⟩) hS.2.2 d_M_pick_125
            · have hw := hw.2 c_16
              refine lv_iconst (v := (0 : Int32)) hx hb d_M_pick_90 (by decide) ?_
              exact W.zret (v := (0 : Int32)) (ty := .boolean) hx hb hr rfl (fun t ht hW => ⟨⟨(0 : Int32), ((0 : Int32), m_fetched, m_on, m_counts), rfl, hw, by rw [ht]; exact hP, va_K.moved hW.alike hK, hD⟩, hS.F ht⟩) hS.2.2 d_M_pick_91
          · have hw := hw.2 c_12
            refine lv_iconst (v := (3 : Int32)) hx hb d_M_pick_58 (by decide) ?_
            refine lv_goto (tgt := 63) hx hb d_M_pick_59 (by decide) ?_
            refine va_put (D := D) (ci := 2) (v := .int (3 : Int32)) (ty := .int) (C := R_M) (T := F_M) (N := 18) hx hb hts (iK iW_M) t_M t_M_ok n_M hown hK hP hD hS 0 rfl rfl 0 (by decide) (hts _ (kM kw_8fca7397)) (fun _ h9 => h9) rfl (by decide +kernel) rfl rfl (Nat.le_of_ble_eq_true rfl) d_M_pick_63 (fun H locs hP hD hS => ?_)
            have hP : va_P D classes (mW d cI cZ (3 : Int32) m_places m_front m_turns m_fetched m_listed m_planned m_wasExact m_shelves m_placeOf m_blockedShelf m_on m_counts m_doors m_list m_plan m_shelf m_trial) H := hP
            have hD : va_D A (mW d cI cZ (3 : Int32) m_places m_front m_turns m_fetched m_listed m_planned m_wasExact m_shelves m_placeOf m_blockedShelf m_on m_counts m_doors m_list m_plan m_shelf m_trial) := hD
            refine lv_aload_n hx hb d_M_pick_66 rfl (lv_at hl 0 rfl) ?_
            refine va_get (D := D) (ci := 2) (v := .int (3 : Int32)) (C := R_M) (T := F_M) (N := 18) hx hb hts (iK iW_M) hown hK hP 0 rfl rfl 0 (by decide) (hts _ (kM kw_8fca7397)) (fun _ h9 => h9) rfl d_M_pick_67 ?_
            refine lv_if_ne (tgt := 90) hx hb d_M_pick_70 (by decide) (fun c_20 => ?_) (fun c_20 => absurd c_20 (by decide))
            refine lv_iconst (v := (0 : Int32)) hx hb d_M_pick_90 (by decide) ?_
            exact W.zret (v := (0 : Int32)) (ty := .boolean) hx hb hr rfl (fun t ht hW => ⟨⟨(0 : Int32), ((3 : Int32), m_fetched, m_on, m_counts), rfl, hw, by rw [ht]; exact hP, va_K.moved hW.alike hK, hD⟩, hS.F ht⟩) hS.2.2 d_M_pick_91
      · have hw := hw.2 c_6
        refine lv_iconst (v := (2 : Int32)) hx hb d_M_pick_29 (by decide) ?_
        refine lv_goto (tgt := 63) hx hb d_M_pick_30 (by decide) ?_
        refine va_put (D := D) (ci := 2) (v := .int (2 : Int32)) (ty := .int) (C := R_M) (T := F_M) (N := 18) hx hb hts (iK iW_M) t_M t_M_ok n_M hown hK hP hD hS 0 rfl rfl 0 (by decide) (hts _ (kM kw_8fca7397)) (fun _ h9 => h9) rfl (by decide +kernel) rfl rfl (Nat.le_of_ble_eq_true rfl) d_M_pick_63 (fun H locs hP hD hS => ?_)
        have hP : va_P D classes (mW d cI cZ (2 : Int32) m_places m_front m_turns m_fetched m_listed m_planned m_wasExact m_shelves m_placeOf m_blockedShelf m_on m_counts m_doors m_list m_plan m_shelf m_trial) H := hP
        have hD : va_D A (mW d cI cZ (2 : Int32) m_places m_front m_turns m_fetched m_listed m_planned m_wasExact m_shelves m_placeOf m_blockedShelf m_on m_counts m_doors m_list m_plan m_shelf m_trial) := hD
        refine lv_aload_n hx hb d_M_pick_66 rfl (lv_at hl 0 rfl) ?_
        refine va_get (D := D) (ci := 2) (v := .int (2 : Int32)) (C := R_M) (T := F_M) (N := 18) hx hb hts (iK iW_M) hown hK hP 0 rfl rfl 0 (by decide) (hts _ (kM kw_8fca7397)) (fun _ h9 => h9) rfl d_M_pick_67 ?_
        refine lv_if_ne (tgt := 90) hx hb d_M_pick_70 (by decide) (fun c_21 => ?_) (fun c_21 => absurd c_21 (by decide))
        refine lv_iconst (v := (0 : Int32)) hx hb d_M_pick_90 (by decide) ?_
        exact W.zret (v := (0 : Int32)) (ty := .boolean) hx hb hr rfl (fun t ht hW => ⟨⟨(0 : Int32), ((2 : Int32), m_fetched, m_on, m_counts), rfl, hw, by rw [ht]; exact hP, va_K.moved hW.alike hK, hD⟩, hS.F ht⟩) hS.2.2 d_M_pick_91
  · have hw := hw.2 c_1
    refine lv_iconst (v := (1 : Int32)) hx hb d_M_pick_8 (by decide) ?_
    refine lv_goto (tgt := 63) hx hb d_M_pick_9 (by decide) ?_
    refine va_put (D := D) (ci := 2) (v := .int (1 : Int32)) (ty := .int) (C := R_M) (T := F_M) (N := 18) hx hb hts (iK iW_M) t_M t_M_ok n_M hown hK hP hD hS 0 rfl rfl 0 (by decide) (hts _ (kM kw_8fca7397)) (fun _ h9 => h9) rfl (by decide +kernel) rfl rfl (Nat.le_of_ble_eq_true rfl) d_M_pick_63 (fun H locs hP hD hS => ?_)
    have hP : va_P D classes (mW d cI cZ (1 : Int32) m_places m_front m_turns m_fetched m_listed m_planned m_wasExact m_shelves m_placeOf m_blockedShelf m_on m_counts m_doors m_list m_plan m_shelf m_trial) H := hP
    have hD : va_D A (mW d cI cZ (1 : Int32) m_places m_front m_turns m_fetched m_listed m_planned m_wasExact m_shelves m_placeOf m_blockedShelf m_on m_counts m_doors m_list m_plan m_shelf m_trial) := hD
    refine lv_aload_n hx hb d_M_pick_66 rfl (lv_at hl 0 rfl) ?_
    refine va_get (D := D) (ci := 2) (v := .int (1 : Int32)) (C := R_M) (T := F_M) (N := 18) hx hb hts (iK iW_M) hown hK hP 0 rfl rfl 0 (by decide) (hts _ (kM kw_8fca7397)) (fun _ h9 => h9) rfl d_M_pick_67 ?_
    refine lv_if_ne (tgt := 90) hx hb d_M_pick_70 (by decide) (fun c_22 => ?_) (fun c_22 => absurd c_22 (by decide))
    refine lv_iconst (v := (0 : Int32)) hx hb d_M_pick_90 (by decide) ?_
    exact W.zret (v := (0 : Int32)) (ty := .boolean) hx hb hr rfl (fun t ht hW => ⟨⟨(0 : Int32), ((1 : Int32), m_fetched, m_on, m_counts), rfl, hw, by rw [ht]; exact hP, va_K.moved hW.alike hK, hD⟩, hS.F ht⟩) hS.2.2 d_M_pick_91
def p_M_door (x1 : Int32) (x2 : Int32) (m_doors : Nat → Int32) (post : Int32 → Int32 → (Nat → Int32) → Prop) : Prop := (p_M_none x1 (2 : Int32) (fun r_1 => ((r_1 = 0 → (vp_in x1 2 ∧ (vp_in x1 2 ∧ (narrow .boolean (.int (m_doors (x1).toNatClampNeg)) = .int (m_doors (x1).toNatClampNeg) ∧ post (m_doors (x1).toNatClampNeg) (0 : Int32) (upd m_doors (x1).toNatClampNeg (vp_nar .boolean x2)))))) ∧ (¬ r_1 = 0 → post (0 : Int32) (1 : Int32) m_doors))))
abbrev rm_M_door : Room := { frames := 2, cells := 0, slots := 0, locals := 61 }
set_option maxHeartbeats 4000000 in
set_option maxRecDepth 100000 in
theorem c_M_door {l : Launch} {D : va_G} {sa : Nat → Nat} {cI cZ : ClassId} {sz : Nat} {d : Nat → Nat} {m_thrownCode : Int32} {m_places : Int32} {m_front : Int32} {m_turns : Int32} {m_fetched : Int32} {m_listed : Int32} {m_planned : Int32} {m_wasExact : Int32} {m_shelves : Int32} {m_placeOf : Nat → Int32} {m_blockedShelf : Nat → Int32} {m_on : Nat → Int32} {m_counts : Nat → Int32} {m_doors : Nat → Int32} {m_list : Nat → Int32} {m_plan : Nat → Int32} {m_shelf : Nat → Int32} {m_trial : Nat → Int32} {x1 : Int32} {x2 : Int32} {post : Int32 → Int32 → (Nat → Int32) → Prop} (hw : p_M_door x1 x2 m_doors post) : Met l y_M_door w_M_door rm_M_door (va_Pc [.ref (d 0), .int x1, .int x2] (kP D sa [(cI, .int), (cZ, .boolean)] (mW d cI cZ m_thrownCode m_places m_front m_turns m_fetched m_listed m_planned m_wasExact m_shelves m_placeOf m_blockedShelf m_on m_counts m_doors m_list m_plan m_shelf m_trial) sz)) (va_Qi (fun r (u : Int32 × (Nat → Int32)) => post r u.1 u.2) (fun (u : Int32 × (Nat → Int32)) t => va_P D classes (mW d cI cZ u.1 m_places m_front m_turns m_fetched m_listed m_planned m_wasExact m_shelves m_placeOf m_blockedShelf m_on m_counts u.2 m_list m_plan m_shelf m_trial) t.heap ∧ va_K D classes [(cI, .int), (cZ, .boolean)] t ∧ va_D (va_A (mW d cI cZ m_thrownCode m_places m_front m_turns m_fetched m_listed m_planned m_wasExact m_shelves m_placeOf m_blockedShelf m_on m_counts m_doors m_list m_plan m_shelf m_trial) sz) (mW d cI cZ u.1 m_places m_front m_turns m_fetched m_listed m_planned m_wasExact m_shelves m_placeOf m_blockedShelf m_on m_counts u.2 m_list m_plan m_shelf m_trial)) (va_A (mW d cI cZ m_thrownCode m_places m_front m_turns m_fetched m_listed m_planned m_wasExact m_shelves m_placeOf m_blockedShelf m_on m_counts m_doors m_list m_plan m_shelf m_trial) sz)) 0 0 (va_A (mW d cI cZ m_thrownCode m_places m_front m_turns m_fetched m_listed m_planned m_wasExact m_shelves m_placeOf m_blockedShelf m_on m_counts m_doors m_list m_plan m_shelf m_trial) sz) := by
  refine Met.ofW (cc := b_M_door) (maxL := 4) (ret := (some .boolean)) (by decide) rfl ?_
  intro p e s m args below meth c s₁ B hml hv
  obtain ⟨rfl, hsz, hP, hK, hD0, hZ⟩ := hv
  have hx := B.exec
  have hb := B.bytes
  have hr := B.returns
  have hts := atoms_spec (ws := w_M_door) B.pre
  have hown : s.vm.findClass R_M = some m.cls := findClass_of_methodNamed B.named
  have hlocks := B.notSynchronized
  subst hsz
  have hD := hD0.self (sz := s.heap.size)
  generalize hAe : (va_A (mW d cI cZ m_thrownCode m_places m_front m_turns m_fetched m_listed m_planned m_wasExact m_shelves m_placeOf m_blockedShelf m_on m_counts m_doors m_list m_plan m_shelf m_trial) s.heap.size) = A at hD hZ ⊢
  have hA : ∀ q : Nat, s.heap.size ≤ q → A q := fun q h => by rw [← hAe]; exact Or.inr h
  have hS : va_S A s.heap s.heap [] := va_S.rf
  have hl := lv_entry ([.ref (d 0), .int x1, .int x2]) (n := 4) (Nat.le_of_ble_eq_true rfl)
  rw [lg_entry_eq]
  generalize (lg_sl ([.ref (d 0), .int x1, .int x2]) ++ List.replicate (4 - (lg_sl ([.ref (d 0), .int x1, .int x2])).length) Slot.unset).toArray = ls at hl ⊢
  have hl : lv_has ls 4 [(0, .ref (d 0)), (1, .int x1), (2, .int x2)] := hl
  refine lv_aload_n hx hb d_M_door_0 rfl (lv_at hl 0 rfl) ?_
  refine lv_iload_n hx hb d_M_door_1 rfl (lv_at hl 1 rfl) ?_
  refine lv_iconst (v := (2 : Int32)) hx hb d_M_door_2 (by decide) ?_
  have hPc := hP.sub (ws' := []) [] rfl
  have hDc := hD.sub (ws' := []) [] (by decide) rfl
  have hFc := va_free (wc := []) hD hS hA [] rfl
  refine vp_callSi (W.runS (As := [.int x1, .int (2 : Int32)]) (rest := [.ref (d 0)]) ⟨hx, hb, hml, hown, hts⟩ (c_M_none hw) (cwS 2 hts (gS k_M_none kw_344abd76 kw_8e7adc0a kw_98028344) rfl rfl rfl (by decide +kernel) ⟨(Nat.le_of_ble_eq_true rfl), (Nat.le_of_ble_eq_true rfl)⟩) ⟨kP.blind, kP.of hK hPc hDc hZ hS hFc⟩ rfl rfl hl.1 rfl (lv_room (Nat.le_of_ble_eq_true rfl)) d_M_door_3 ⟨(Nat.le_of_ble_eq_true rfl), (Nat.le_of_ble_eq_true rfl)⟩) (fun r_1 hw => ?_)
  refine lv_if_eq (tgt := 13) hx hb d_M_door_6 (by decide) (fun c_2 => ?_) (fun c_2 => ?_)
  · have hw := hw.1 c_2
    refine lv_iconst (v := (0 : Int32)) hx hb d_M_door_13 (by decide) ?_
    refine va_put (D := D) (ci := 2) (v := .int (0 : Int32)) (ty := .int) (C := R_M) (T := F_M) (N := 18) hx hb hts (iK iW_M) t_M t_M_ok n_M hown hK hP hD hS 0 rfl rfl 0 (by decide) (hts _ (kM kw_8fca7397)) (fun _ h9 => h9) rfl (by decide +kernel) rfl rfl (Nat.le_of_ble_eq_true rfl) d_M_door_14 (fun H locs hP hD hS => ?_)
    have hP : va_P D classes (mW d cI cZ (0 : Int32) m_places m_front m_turns m_fetched m_listed m_planned m_wasExact m_shelves m_placeOf m_blockedShelf m_on m_counts m_doors m_list m_plan m_shelf m_trial) H := hP
    have hD : va_D A (mW d cI cZ (0 : Int32) m_places m_front m_turns m_fetched m_listed m_planned m_wasExact m_shelves m_placeOf m_blockedShelf m_on m_counts m_doors m_list m_plan m_shelf m_trial) := hD
    refine lv_aload_n hx hb d_M_door_17 rfl (lv_at hl 0 rfl) ?_
    refine va_get (D := D) (ci := 2) (v := .int (0 : Int32)) (C := R_M) (T := F_M) (N := 18) hx hb hts (iK iW_M) hown hK hP 0 rfl rfl 0 (by decide) (hts _ (kM kw_8fca7397)) (fun _ h9 => h9) rfl d_M_door_18 ?_
    refine lv_if_eq (tgt := 26) hx hb d_M_door_21 (by decide) (fun c_3 => ?_) (fun c_3 => absurd c_3 (by decide))
    refine lv_aload_n hx hb d_M_door_26 rfl (lv_at hl 0 rfl) ?_
    refine va_get (D := D) (ci := 2) (v := .ref (d 5)) (C := R_M) (T := F_M) (N := 18) hx hb hts (iK iW_M) hown hK hP 0 rfl rfl 7 (by decide) (hts _ (kM kw_e8c36500)) (fun _ h9 => h9) rfl d_M_door_27 ?_
    refine lv_iload_n hx hb d_M_door_30 rfl (lv_at hl 1 rfl) ?_
    obtain ⟨h_4, hw⟩ := hw
    refine va_zald hx hb hK hP 5 1 rfl rfl h_4 d_M_door_31 ?_
    refine lv_istore_n (lv' := [(3, .int (m_doors (x1).toNatClampNeg)), (0, .ref (d 0)), (1, .int x1), (2, .int x2)]) hx hb d_M_door_32 rfl hl (by decide) rfl (fun ls hl => ?_)
    refine lv_aload_n hx hb d_M_door_33 rfl (lv_at hl 1 rfl) ?_
    refine va_get (D := D) (ci := 2) (v := .ref (d 5)) (C := R_M) (T := F_M) (N := 18) hx hb hts (iK iW_M) hown hK hP 0 rfl rfl 7 (by decide) (hts _ (kM kw_e8c36500)) (fun _ h9 => h9) rfl d_M_door_34 ?_
    refine lv_iload_n hx hb d_M_door_37 rfl (lv_at hl 2 rfl) ?_
    refine lv_iload_n hx hb d_M_door_38 rfl (lv_at hl 3 rfl) ?_
    obtain ⟨h_5, hw⟩ := hw
    refine va_zast hx hb hK hP hD hS 5 1 rfl rfl h_5 d_M_door_39 (fun H locs hP hD hS => ?_)
    have hP : va_P D classes (mW d cI cZ (0 : Int32) m_places m_front m_turns m_fetched m_listed m_planned m_wasExact m_shelves m_placeOf m_blockedShelf m_on m_counts (upd m_doors (x1).toNatClampNeg (vp_nar .boolean x2)) m_list m_plan m_shelf m_trial) H := hP
    have hD : va_D A (mW d cI cZ (0 : Int32) m_places m_front m_turns m_fetched m_listed m_planned m_wasExact m_shelves m_placeOf m_blockedShelf m_on m_counts (upd m_doors (x1).toNatClampNeg (vp_nar .boolean x2)) m_list m_plan m_shelf m_trial) := hD
    refine lv_iload_n hx hb d_M_door_40 rfl (lv_at hl 0 rfl) ?_
    obtain ⟨h_6, hw⟩ := hw
    exact W.zret (v := (m_doors (x1).toNatClampNeg)) (ty := .boolean) hx hb hr h_6 (fun t ht hW => ⟨⟨(m_doors (x1).toNatClampNeg), ((0 : Int32), (upd m_doors (x1).toNatClampNeg (vp_nar .boolean x2))), rfl, hw, by rw [ht]; exact hP, va_K.moved hW.alike hK, hD⟩, hS.F ht⟩) hS.2.2 d_M_door_41
  · have hw := hw.2 c_2
    refine lv_iconst (v := (1 : Int32)) hx hb d_M_door_9 (by decide) ?_
    refine lv_goto (tgt := 14) hx hb d_M_door_10 (by decide) ?_
    refine va_put (D := D) (ci := 2) (v := .int (1 : Int32)) (ty := .int) (C := R_M) (T := F_M) (N := 18) hx hb hts (iK iW_M) t_M t_M_ok n_M hown hK hP hD hS 0 rfl rfl 0 (by decide) (hts _ (kM kw_8fca7397)) (fun _ h9 => h9) rfl (by decide +kernel) rfl rfl (Nat.le_of_ble_eq_true rfl) d_M_door_14 (fun H locs hP hD hS => ?_)
    have hP : va_P D classes (mW d cI cZ (1 : Int32) m_places m_front m_turns m_fetched m_listed m_planned m_wasExact m_shelves m_placeOf m_blockedShelf m_on m_counts m_doors m_list m_plan m_shelf m_trial) H := hP
    have hD : va_D A (mW d cI cZ (1 : Int32) m_places m_front m_turns m_fetched m_listed m_planned m_wasExact m_shelves m_placeOf m_blockedShelf m_on m_counts m_doors m_list m_plan m_shelf m_trial) := hD
    refine lv_aload_n hx hb d_M_door_17 rfl (lv_at hl 0 rfl) ?_
    refine va_get (D := D) (ci := 2) (v := .int (1 : Int32)) (C := R_M) (T := F_M) (N := 18) hx hb hts (iK iW_M) hown hK hP 0 rfl rfl 0 (by decide) (hts _ (kM kw_8fca7397)) (fun _ h9 => h9) rfl d_M_door_18 ?_
    refine lv_if_eq (tgt := 26) hx hb d_M_door_21 (by decide) (fun c_7 => absurd c_7 (by decide)) (fun c_7 => ?_)
    refine lv_iconst (v := (0 : Int32)) hx hb d_M_door_24 (by decide) ?_
    exact W.zret (v := (0 : Int32)) (ty := .boolean) hx hb hr rfl (fun t ht hW => ⟨⟨(0 : Int32), ((1 : Int32), m_doors), rfl, hw, by rw [ht]; exact hP, va_K.moved hW.alike hK, hD⟩, hS.F ht⟩) hS.2.2 d_M_door_25
def p_M_move (x1 : Int32) (x2 : Int32) (m_places : Int32) (m_placeOf : Nat → Int32) (m_doors : Nat → Int32) (post : Int32 → Int32 → (Nat → Int32) → Prop) : Prop := (p_M_none x1 m_places (fun r_1 => ((¬ r_1 = 0 → post (0 : Int32) (1 : Int32) m_placeOf) ∧ (r_1 = 0 → (p_M_none x2 m_places (fun r_4 => ((r_4 = 0 → (p_M_anyDoor m_doors (fun r_6 => ((¬ r_6 = 0 → post (0 : Int32) (2 : Int32) m_placeOf) ∧ (r_6 = 0 → ((¬ x1 = x2 → (vp_in x1 24 ∧ (vp_in x2 24 ∧ (vp_in x1 24 ∧ (vp_in x2 24 ∧ (vp_in x1 24 ∧ (vp_in x2 24 ∧ (p_M_distance ((upd (upd m_placeOf (x1).toNatClampNeg (m_placeOf (x2).toNatClampNeg)) (x2).toNatClampNeg (m_placeOf (x1).toNatClampNeg)) (x1).toNatClampNeg) ((upd (upd m_placeOf (x1).toNatClampNeg (m_placeOf (x2).toNatClampNeg)) (x2).toNatClampNeg (m_placeOf (x1).toNatClampNeg)) (x2).toNatClampNeg) m_places (fun r_17 => post r_17 (0 : Int32) (upd (upd m_placeOf (x1).toNatClampNeg (m_placeOf (x2).toNatClampNeg)) (x2).toNatClampNeg (m_placeOf (x1).toNatClampNeg))))))))))) ∧ (x1 = x2 → post (0 : Int32) (2 : Int32) m_placeOf))))))) ∧ (¬ r_4 = 0 → post (0 : Int32) (1 : Int32) m_placeOf))))))))
abbrev rm_M_move : Room := { frames := 2, cells := 0, slots := 0, locals := 63 }
set_option maxHeartbeats 4000000 in
set_option maxRecDepth 100000 in
theorem c_M_move {l : Launch} {D : va_G} {sa : Nat → Nat} {cI cZ : ClassId} {sz : Nat} {d : Nat → Nat} {m_thrownCode : Int32} {m_places : Int32} {m_front : Int32} {m_turns : Int32} {m_fetched : Int32} {m_listed : Int32} {m_planned : Int32} {m_wasExact : Int32} {m_shelves : Int32} {m_placeOf : Nat → Int32} {m_blockedShelf : Nat → Int32} {m_on : Nat → Int32} {m_counts : Nat → Int32} {m_doors : Nat → Int32} {m_list : Nat → Int32} {m_plan : Nat → Int32} {m_shelf : Nat → Int32} {m_trial : Nat → Int32} {x1 : Int32} {x2 : Int32} {post : Int32 → Int32 → (Nat → Int32) → Prop} (hw : p_M_move x1 x2 m_places m_placeOf m_doors post) : Met l y_M_move w_M_move rm_M_move (va_Pc [.ref (d 0), .int x1, .int x2] (kP D sa [(cI, .int), (cZ, .boolean)] (mW d cI cZ m_thrownCode m_places m_front m_turns m_fetched m_listed m_planned m_wasExact m_shelves m_placeOf m_blockedShelf m_on m_counts m_doors m_list m_plan m_shelf m_trial) sz)) (va_Qi (fun r (u : Int32 × (Nat → Int32)) => post r u.1 u.2) (fun (u : Int32 × (Nat → Int32)) t => va_P D classes (mW d cI cZ u.1 m_places m_front m_turns m_fetched m_listed m_planned m_wasExact m_shelves u.2 m_blockedShelf m_on m_counts m_doors m_list m_plan m_shelf m_trial) t.heap ∧ va_K D classes [(cI, .int), (cZ, .boolean)] t ∧ va_D (va_A (mW d cI cZ m_thrownCode m_places m_front m_turns m_fetched m_listed m_planned m_wasExact m_shelves m_placeOf m_blockedShelf m_on m_counts m_doors m_list m_plan m_shelf m_trial) sz) (mW d cI cZ u.1 m_places m_front m_turns m_fetched m_listed m_planned m_wasExact m_shelves u.2 m_blockedShelf m_on m_counts m_doors m_list m_plan m_shelf m_trial)) (va_A (mW d cI cZ m_thrownCode m_places m_front m_turns m_fetched m_listed m_planned m_wasExact m_shelves m_placeOf m_blockedShelf m_on m_counts m_doors m_list m_plan m_shelf m_trial) sz)) 0 0 (va_A (mW d cI cZ m_thrownCode m_places m_front m_turns m_fetched m_listed m_planned m_wasExact m_shelves m_placeOf m_blockedShelf m_on m_counts m_doors m_list m_plan m_shelf m_trial) sz) := by
  refine Met.ofW (cc := b_M_move) (maxL := 4) (ret := (some .int)) (by decide) rfl ?_
  intro p e s m args below meth c s₁ B hml hv
  obtain ⟨rfl, hsz, hP, hK, hD0, hZ⟩ := hv
  have hx := B.exec
  have hb := B.bytes
  have hr := B.returns
  have hts := atoms_spec (ws := w_M_move) B.pre
  have hown : s.vm.findClass R_M = some m.cls := findClass_of_methodNamed B.named
  have hlocks := B.notSynchronized
  subst hsz
  have hD := hD0.self (sz := s.heap.size)
  generalize hAe : (va_A (mW d cI cZ m_thrownCode m_places m_front m_turns m_fetched m_listed m_planned m_wasExact m_shelves m_placeOf m_blockedShelf m_on m_counts m_doors m_list m_plan m_shelf m_trial) s.heap.size) = A at hD hZ ⊢
  have hA : ∀ q : Nat, s.heap.size ≤ q → A q := fun q h => by rw [← hAe]; exact Or.inr h
  have hS : va_S A s.heap s.heap [] := va_S.rf
  have hl := lv_entry ([.ref (d 0), .int x1, .int x2]) (n := 4) (Nat.le_of_ble_eq_true rfl)
  rw [lg_entry_eq]
  generalize (lg_sl ([.ref (d 0), .int x1, .int x2]) ++ List.replicate (4 - (lg_sl ([.ref (d 0), .int x1, .int x2])).length) Slot.unset).toArray = ls at hl ⊢
  have hl : lv_has ls 4 [(0, .ref (d 0)), (1, .int x1), (2, .int x2)] := hl
  refine lv_aload_n hx hb d_M_move_0 rfl (lv_at hl 0 rfl) ?_
  refine lv_iload_n hx hb d_M_move_1 rfl (lv_at hl 1 rfl) ?_
  refine lv_aload_n hx hb d_M_move_2 rfl (lv_at hl 0 rfl) ?_
  refine va_get (D := D) (ci := 2) (v := .int m_places) (C := R_M) (T := F_M) (N := 18) hx hb hts (iK iW_M) hown hK hP 0 rfl rfl 1 (by decide) (hts _ (kM kw_7139d127)) (fun _ h9 => h9) rfl d_M_move_3 ?_
  have hPc := hP.sub (ws' := []) [] rfl
  have hDc := hD.sub (ws' := []) [] (by decide) rfl
  have hFc := va_free (wc := []) hD hS hA [] rfl
  refine vp_callSi (W.runS (As := [.int x1, .int m_places]) (rest := [.ref (d 0)]) ⟨hx, hb, hml, hown, hts⟩ (c_M_none hw) (cwS 2 hts (gS k_M_none kw_344abd76 kw_8e7adc0a kw_98028344) rfl rfl rfl (by decide +kernel) ⟨(Nat.le_of_ble_eq_true rfl), (Nat.le_of_ble_eq_true rfl)⟩) ⟨kP.blind, kP.of hK hPc hDc hZ hS hFc⟩ rfl rfl hl.1 rfl (lv_room (Nat.le_of_ble_eq_true rfl)) d_M_move_6 ⟨(Nat.le_of_ble_eq_true rfl), (Nat.le_of_ble_eq_true rfl)⟩) (fun r_1 hw => ?_)
  refine lv_if_ne (tgt := 23) hx hb d_M_move_9 (by decide) (fun c_2 => ?_) (fun c_2 => ?_)
  · have hw := hw.1 c_2
    refine lv_iconst (v := (1 : Int32)) hx hb d_M_move_23 (by decide) ?_
    refine lv_goto (tgt := 44) hx hb d_M_move_24 (by decide) ?_
    refine va_put (D := D) (ci := 2) (v := .int (1 : Int32)) (ty := .int) (C := R_M) (T := F_M) (N := 18) hx hb hts (iK iW_M) t_M t_M_ok n_M hown hK hP hD hS 0 rfl rfl 0 (by decide) (hts _ (kM kw_8fca7397)) (fun _ h9 => h9) rfl (by decide +kernel) rfl rfl (Nat.le_of_ble_eq_true rfl) d_M_move_44 (fun H locs hP hD hS => ?_)
    have hP : va_P D classes (mW d cI cZ (1 : Int32) m_places m_front m_turns m_fetched m_listed m_planned m_wasExact m_shelves m_placeOf m_blockedShelf m_on m_counts m_doors m_list m_plan m_shelf m_trial) H := hP
    have hD : va_D A (mW d cI cZ (1 : Int32) m_places m_front m_turns m_fetched m_listed m_planned m_wasExact m_shelves m_placeOf m_blockedShelf m_on m_counts m_doors m_list m_plan m_shelf m_trial) := hD
    refine lv_aload_n hx hb d_M_move_47 rfl (lv_at hl 0 rfl) ?_
    refine va_get (D := D) (ci := 2) (v := .int (1 : Int32)) (C := R_M) (T := F_M) (N := 18) hx hb hts (iK iW_M) hown hK hP 0 rfl rfl 0 (by decide) (hts _ (kM kw_8fca7397)) (fun _ h9 => h9) rfl d_M_move_48 ?_
    refine lv_if_eq (tgt := 56) hx hb d_M_move_51 (by decide) (fun c_3 => absurd c_3 (by decide)) (fun c_3 => ?_)
    refine lv_iconst (v := (0 : Int32)) hx hb d_M_move_54 (by decide) ?_
    exact W.iret (v := (0 : Int32)) hx hb hr (fun t ht hW => ⟨⟨(0 : Int32), ((1 : Int32), m_placeOf), rfl, hw, by rw [ht]; exact hP, va_K.moved hW.alike hK, hD⟩, hS.F ht⟩) hS.2.2 d_M_move_55
  · have hw := hw.2 c_2
    refine lv_iload_n hx hb d_M_move_12 rfl (lv_at hl 2 rfl) ?_
    refine lv_aload_n hx hb d_M_move_13 rfl (lv_at hl 0 rfl) ?_
    refine va_get (D := D) (ci := 2) (v := .int m_places) (C := R_M) (T := F_M) (N := 18) hx hb hts (iK iW_M) hown hK hP 0 rfl rfl 1 (by decide) (hts _ (kM kw_7139d127)) (fun _ h9 => h9) rfl d_M_move_14 ?_
    have hPc := hP.sub (ws' := []) [] rfl
    have hDc := hD.sub (ws' := []) [] (by decide) rfl
    have hFc := va_free (wc := []) hD hS hA [] rfl
    refine vp_callSi (W.runS (As := [.int x2, .int m_places]) (rest := [.ref (d 0)]) ⟨hx, hb, hml, hown, hts⟩ (c_M_none hw) (cwS 2 hts (gS k_M_none kw_344abd76 kw_8e7adc0a kw_98028344) rfl rfl rfl (by decide +kernel) ⟨(Nat.le_of_ble_eq_true rfl), (Nat.le_of_ble_eq_true rfl)⟩) ⟨kP.blind, kP.of hK hPc hDc hZ hS hFc⟩ rfl rfl hl.1 rfl (lv_room (Nat.le_of_ble_eq_true rfl)) d_M_move_17 ⟨(Nat.le_of_ble_eq_true rfl), (Nat.le_of_ble_eq_true rfl)⟩) (fun r_4 hw => ?_)
    refine lv_if_eq (tgt := 27) hx hb d_M_move_20 (by decide) (fun c_5 => ?_) (fun c_5 => ?_)
    · have hw := hw.1 c_5
      refine lv_aload_n hx hb d_M_move_27 rfl (lv_at hl 0 rfl) ?_
      have hPc := hP
      have hDc := hD
      have hFc := va_free (wc := mW d cI cZ m_thrownCode m_places m_front m_turns m_fetched m_listed m_planned m_wasExact m_shelves m_placeOf m_blockedShelf m_on m_counts m_doors m_list m_plan m_shelf m_trial) hD hS hA [0, 1, 2, 3, 4, 5, 6, 7, 8, 9] rfl
      refine vp_callSi (W.runV (As := []) (rest := [.ref (d 0)]) ⟨hx, hb, hml, hown, hts⟩ (c_M_anyDoor hw) (cwV 0 hts (gV k_M_anyDoor kw_e1054515 kw_802bee30 kw_08a6665f kw_98028344) rfl rfl rfl (by decide +kernel) ⟨(Nat.le_of_ble_eq_true rfl), (Nat.le_of_ble_eq_true rfl)⟩) ⟨kP.blind, va_recv hK hPc (ci := 2) (q0 := 0) rfl rfl, kP.of hK hPc hDc hZ hS hFc⟩ rfl rfl hl.1 rfl (lv_room (Nat.le_of_ble_eq_true rfl)) d_M_move_28 ⟨(Nat.le_of_ble_eq_true rfl), (Nat.le_of_ble_eq_true rfl)⟩) (fun r_6 hw => ?_)
      refine lv_if_ne (tgt := 39) hx hb d_M_move_31 (by decide) (fun c_7 => ?_) (fun c_7 => ?_)
      · have hw := hw.1 c_7
        refine lv_iconst (v := (2 : Int32)) hx hb d_M_move_39 (by decide) ?_
        refine lv_goto (tgt := 44) hx hb d_M_move_40 (by decide) ?_
        refine va_put (D := D) (ci := 2) (v := .int (2 : Int32)) (ty := .int) (C := R_M) (T := F_M) (N := 18) hx hb hts (iK iW_M) t_M t_M_ok n_M hown hK hP hD hS 0 rfl rfl 0 (by decide) (hts _ (kM kw_8fca7397)) (fun _ h9 => h9) rfl (by decide +kernel) rfl rfl (Nat.le_of_ble_eq_true rfl) d_M_move_44 (fun H locs hP hD hS => ?_)
        have hP : va_P D classes (mW d cI cZ (2 : Int32) m_places m_front m_turns m_fetched m_listed m_planned m_wasExact m_shelves m_placeOf m_blockedShelf m_on m_counts m_doors m_list m_plan m_shelf m_trial) H := hP
        have hD : va_D A (mW d cI cZ (2 : Int32) m_places m_front m_turns m_fetched m_listed m_planned m_wasExact m_shelves m_placeOf m_blockedShelf m_on m_counts m_doors m_list m_plan m_shelf m_trial) := hD
        refine lv_aload_n hx hb d_M_move_47 rfl (lv_at hl 0 rfl) ?_
        refine va_get (D := D) (ci := 2) (v := .int (2 : Int32)) (C := R_M) (T := F_M) (N := 18) hx hb hts (iK iW_M) hown hK hP 0 rfl rfl 0 (by decide) (hts _ (kM kw_8fca7397)) (fun _ h9 => h9) rfl d_M_move_48 ?_
        refine lv_if_eq (tgt := 56) hx hb d_M_move_51 (by decide) (fun c_8 => absurd c_8 (by decide)) (fun c_8 => ?_)
        refine lv_iconst (v := (0 : Int32)) hx hb d_M_move_54 (by decide) ?_
        exact W.iret (v := (0 : Int32)) hx hb hr (fun t ht hW => ⟨⟨(0 : Int32), ((2 : Int32), m_placeOf), rfl, hw, by rw [ht]; exact hP, va_K.moved hW.alike hK, hD⟩, hS.F ht⟩) hS.2.2 d_M_move_55
      · have hw := hw.2 c_7
        refine lv_iload_n hx hb d_M_move_34 rfl (lv_at hl 1 rfl) ?_
        refine lv_iload_n hx hb d_M_move_35 rfl (lv_at hl 2 rfl) ?_
        refine lv_icmp_ne (tgt := 43) hx hb d_M_move_36 (by decide) (fun c_9 => ?_) (fun c_9 => ?_)
        · have hw := hw.1 c_9
          refine lv_iconst (v := (0 : Int32)) hx hb d_M_move_43 (by decide) ?_
          refine va_put (D := D) (ci := 2) (v := .int (0 : Int32)) (ty := .int) (C := R_M) (T := F_M) (N := 18) hx hb hts (iK iW_M) t_M t_M_ok n_M hown hK hP hD hS 0 rfl rfl 0 (by decide) (hts _ (kM kw_8fca7397)) (fun _ h9 => h9) rfl (by decide +kernel) rfl rfl (Nat.le_of_ble_eq_true rfl) d_M_move_44 (fun H locs hP hD hS => ?_)
          have hP : va_P D classes (mW d cI cZ (0 : Int32) m_places m_front m_turns m_fetched m_listed m_planned m_wasExact m_shelves m_placeOf m_blockedShelf m_on m_counts m_doors m_list m_plan m_shelf m_trial) H := hP
          have hD : va_D A (mW d cI cZ (0 : Int32) m_places m_front m_turns m_fetched m_listed m_planned m_wasExact m_shelves m_placeOf m_blockedShelf m_on m_counts m_doors m_list m_plan m_shelf m_trial) := hD
          refine lv_aload_n hx hb d_M_move_47 rfl (lv_at hl 0 rfl) ?_
          refine va_get (D := D) (ci := 2) (v := .int (0 : Int32)) (C := R_M) (T := F_M) (N := 18) hx hb hts (iK iW_M) hown hK hP 0 rfl rfl 0 (by decide) (hts _ (kM kw_8fca7397)) (fun _ h9 => h9) rfl d_M_move_48 ?_
          refine lv_if_eq (tgt := 56) hx hb d_M_move_51 (by decide) (fun c_10 => ?_) (fun c_10 => absurd c_10 (by decide))
          refine lv_aload_n hx hb d_M_move_56 rfl (lv_at hl 0 rfl) ?_
          refine va_get (D := D) (ci := 2) (v := .ref (d 1)) (C := R_M) (T := F_M) (N := 18) hx hb hts (iK iW_M) hown hK hP 0 rfl rfl 3 (by decide) (hts _ (kM kw_1dda6185)) (fun _ h9 => h9) rfl d_M_move_57 ?_
          refine lv_iload_n hx hb d_M_move_60 rfl (lv_at hl 1 rfl) ?_
          obtain ⟨h_11, hw⟩ := hw
          refine va_iald hx hb hK hP 1 0 rfl rfl h_11 d_M_move_61 ?_
          refine lv_istore_n (lv' := [(3, .int (m_placeOf (x1).toNatClampNeg)), (0, .ref (d 0)), (1, .int x1), (2, .int x2)]) hx hb d_M_move_62 rfl hl (by decide) rfl (fun ls hl => ?_)
          refine lv_aload_n hx hb d_M_move_63 rfl (lv_at hl 1 rfl) ?_
          refine va_get (D := D) (ci := 2) (v := .ref (d 1)) (C := R_M) (T := F_M) (N := 18) hx hb hts (iK iW_M) hown hK hP 0 rfl rfl 3 (by decide) (hts _ (kM kw_1dda6185)) (fun _ h9 => h9) rfl d_M_move_64 ?_
          refine lv_iload_n hx hb d_M_move_67 rfl (lv_at hl 2 rfl) ?_
          refine lv_aload_n hx hb d_M_move_68 rfl (lv_at hl 1 rfl) ?_
          refine va_get (D := D) (ci := 2) (v := .ref (d 1)) (C := R_M) (T := F_M) (N := 18) hx hb hts (iK iW_M) hown hK hP 0 rfl rfl 3 (by decide) (hts _ (kM kw_1dda6185)) (fun _ h9 => h9) rfl d_M_move_69 ?_
          refine lv_iload_n hx hb d_M_move_72 rfl (lv_at hl 3 rfl) ?_
          obtain ⟨h_12, hw⟩ := hw
          refine va_iald hx hb hK hP 1 0 rfl rfl h_12 d_M_move_73 ?_
          obtain ⟨h_13, hw⟩ := hw
          refine va_iast hx hb hK hP hD hS 1 0 rfl rfl h_13 d_M_move_74 (fun H locs hP hD hS => ?_)
          have hP : va_P D classes (mW d cI cZ (0 : Int32) m_places m_front m_turns m_fetched m_listed m_planned m_wasExact m_shelves (upd m_placeOf (x1).toNatClampNeg (m_placeOf (x2).toNatClampNeg)) m_blockedShelf m_on m_counts m_doors m_list m_plan m_shelf m_trial) H := hP
          have hD : va_D A (mW d cI cZ (0 : Int32) m_places m_front m_turns m_fetched m_listed m_planned m_wasExact m_shelves (upd m_placeOf (x1).toNatClampNeg (m_placeOf (x2).toNatClampNeg)) m_blockedShelf m_on m_counts m_doors m_list m_plan m_shelf m_trial) := hD
          refine lv_aload_n hx hb d_M_move_75 rfl (lv_at hl 1 rfl) ?_
          refine va_get (D := D) (ci := 2) (v := .ref (d 1)) (C := R_M) (T := F_M) (N := 18) hx hb hts (iK iW_M) hown hK hP 0 rfl rfl 3 (by decide) (hts _ (kM kw_1dda6185)) (fun _ h9 => h9) rfl d_M_move_76 ?_
          refine lv_iload_n hx hb d_M_move_79 rfl (lv_at hl 3 rfl) ?_
          refine lv_iload_n hx hb d_M_move_80 rfl (lv_at hl 0 rfl) ?_
          obtain ⟨h_14, hw⟩ := hw
          refine va_iast hx hb hK hP hD hS 1 0 rfl rfl h_14 d_M_move_81 (fun H locs hP hD hS => ?_)
          have hP : va_P D classes (mW d cI cZ (0 : Int32) m_places m_front m_turns m_fetched m_listed m_planned m_wasExact m_shelves (upd (upd m_placeOf (x1).toNatClampNeg (m_placeOf (x2).toNatClampNeg)) (x2).toNatClampNeg (m_placeOf (x1).toNatClampNeg)) m_blockedShelf m_on m_counts m_doors m_list m_plan m_shelf m_trial) H := hP
          have hD : va_D A (mW d cI cZ (0 : Int32) m_places m_front m_turns m_fetched m_listed m_planned m_wasExact m_shelves (upd (upd m_placeOf (x1).toNatClampNeg (m_placeOf (x2).toNatClampNeg)) (x2).toNatClampNeg (m_placeOf (x1).toNatClampNeg)) m_blockedShelf m_on m_counts m_doors m_list m_plan m_shelf m_trial) := hD
          refine lv_aload_n hx hb d_M_move_82 rfl (lv_at hl 1 rfl) ?_
          refine lv_aload_n hx hb d_M_move_83 rfl (lv_at hl 1 rfl) ?_
          refine va_get (D := D) (ci := 2) (v := .ref (d 1)) (C := R_M) (T := F_M) (N := 18) hx hb hts (iK iW_M) hown hK hP 0 rfl rfl 3 (by decide) (hts _ (kM kw_1dda6185)) (fun _ h9 => h9) rfl d_M_move_84 ?_
          refine lv_iload_n hx hb d_M_move_87 rfl (lv_at hl 2 rfl) ?_
          obtain ⟨h_15, hw⟩ := hw
          refine va_iald hx hb hK hP 1 0 rfl rfl h_15 d_M_move_88 ?_
          refine lv_aload_n hx hb d_M_move_89 rfl (lv_at hl 1 rfl) ?_
          refine va_get (D := D) (ci := 2) (v := .ref (d 1)) (C := R_M) (T := F_M) (N := 18) hx hb hts (iK iW_M) hown hK hP 0 rfl rfl 3 (by decide) (hts _ (kM kw_1dda6185)) (fun _ h9 => h9) rfl d_M_move_90 ?_
          refine lv_iload_n hx hb d_M_move_93 rfl (lv_at hl 3 rfl) ?_
          obtain ⟨h_16, hw⟩ := hw
          refine va_iald hx hb hK hP 1 0 rfl rfl h_16 d_M_move_94 ?_
          have hPc := hP
          have hDc := hD
          have hFc := va_free (wc := mW d cI cZ (0 : Int32) m_places m_front m_turns m_fetched m_listed m_planned m_wasExact m_shelves (upd (upd m_placeOf (x1).toNatClampNeg (m_placeOf (x2).toNatClampNeg)) (x2).toNatClampNeg (m_placeOf (x1).toNatClampNeg)) m_blockedShelf m_on m_counts m_doors m_list m_plan m_shelf m_trial) hD hS hA [0, 1, 2, 3, 4, 5, 6, 7, 8, 9] rfl
          refine vp_callSi (W.runV (As := [.int ((upd (upd m_placeOf (x1).toNatClampNeg (m_placeOf (x2).toNatClampNeg)) (x2).toNatClampNeg (m_placeOf (x1).toNatClampNeg)) (x1).toNatClampNeg), .int ((upd (upd m_placeOf (x1).toNatClampNeg (m_placeOf (x2).toNatClampNeg)) (x2).toNatClampNeg (m_placeOf (x1).toNatClampNeg)) (x2).toNatClampNeg)]) (rest := []) ⟨hx, hb, hml, hown, hts⟩ (c_M_distance hw) (cwV 2 hts (gV k_M_distance kw_850ee39e kw_0c4e16f1 kw_70900a17 kw_98028344) rfl rfl rfl (by decide +kernel) ⟨(Nat.le_of_ble_eq_true rfl), (Nat.le_of_ble_eq_true rfl)⟩) ⟨kP.blind, va_recv hK hPc (ci := 2) (q0 := 0) rfl rfl, kP.of hK hPc hDc hZ hS hFc⟩ rfl rfl hl.1 rfl (lv_room (Nat.le_of_ble_eq_true rfl)) d_M_move_95 ⟨(Nat.le_of_ble_eq_true rfl), (Nat.le_of_ble_eq_true rfl)⟩) (fun r_17 hw => ?_)
          exact W.iret (v := r_17) hx hb hr (fun t ht hW => ⟨⟨r_17, ((0 : Int32), (upd (upd m_placeOf (x1).toNatClampNeg (m_placeOf (x2).toNatClampNeg)) (x2).toNatClampNeg (m_placeOf (x1).toNatClampNeg))), rfl, hw, by rw [ht]; exact hP, va_K.moved hW.alike hK, hD⟩, hS.F ht⟩) hS.2.2 d_M_move_98
        · have hw := hw.2 c_9
          refine lv_iconst (v := (2 : Int32)) hx hb d_M_move_39 (by decide) ?_
          refine lv_goto (tgt := 44) hx hb d_M_move_40 (by decide) ?_
          refine va_put (D := D) (ci := 2) (v := .int (2 : Int32)) (ty := .int) (C := R_M) (T := F_M) (N := 18) hx hb hts (iK iW_M) t_M t_M_ok n_M hown hK hP hD hS 0 rfl rfl 0 (by decide) (hts _ (kM kw_8fca7397)) (fun _ h9 => h9) rfl (by decide +kernel) rfl rfl (Nat.le_of_ble_eq_true rfl) d_M_move_44 (fun H locs hP hD hS => ?_)
          have hP : va_P D classes (mW d cI cZ (2 : Int32) m_places m_front m_turns m_fetched m_listed m_planned m_wasExact m_shelves m_placeOf m_blockedShelf m_on m_counts m_doors m_list m_plan m_shelf m_trial) H := hP
          have hD : va_D A (mW d cI cZ (2 : Int32) m_places m_front m_turns m_fetched m_listed m_planned m_wasExact m_shelves m_placeOf m_blockedShelf m_on m_counts m_doors m_list m_plan m_shelf m_trial) := hD
          refine lv_aload_n hx hb d_M_move_47 rfl (lv_at hl 0 rfl) ?_
          refine va_get (D := D) (ci := 2) (v := .int (2 : Int32)) (C := R_M) (T := F_M) (N := 18) hx hb hts (iK iW_M) hown hK hP 0 rfl rfl 0 (by decide) (hts _ (kM kw_8fca7397)) (fun _ h9 => h9) rfl d_M_move_48 ?_
          refine lv_if_eq (tgt := 56) hx hb d_M_move_51 (by decide) (fun c_18 => absurd c_18 (by decide)) (fun c_18 => ?_)
          refine lv_iconst (v := (0 : Int32)) hx hb d_M_move_54 (by decide) ?_
          exact W.iret (v := (0 : Int32)) hx hb hr (fun t ht hW => ⟨⟨(0 : Int32), ((2 : Int32), m_placeOf), rfl, hw, by rw [ht]; exact hP, va_K.moved hW.alike hK, hD⟩, hS.F ht⟩) hS.2.2 d_M_move_55
    · have hw := hw.2 c_5
      refine lv_iconst (v := (1 : Int32)) hx hb d_M_move_23 (by decide) ?_
      refine lv_goto (tgt := 44) hx hb d_M_move_24 (by decide) ?_
      refine va_put (D := D) (ci := 2) (v := .int (1 : Int32)) (ty := .int) (C := R_M) (T := F_M) (N := 18) hx hb hts (iK iW_M) t_M t_M_ok n_M hown hK hP hD hS 0 rfl rfl 0 (by decide) (hts _ (kM kw_8fca7397)) (fun _ h9 => h9) rfl (by decide +kernel) rfl rfl (Nat.le_of_ble_eq_true rfl) d_M_move_44 (fun H locs hP hD hS => ?_)
      have hP : va_P D classes (mW d cI cZ (1 : Int32) m_places m_front m_turns m_fetched m_listed m_planned m_wasExact m_shelves m_placeOf m_blockedShelf m_on m_counts m_doors m_list m_plan m_shelf m_trial) H := hP
      have hD : va_D A (mW d cI cZ (1 : Int32) m_places m_front m_turns m_fetched m_listed m_planned m_wasExact m_shelves m_placeOf m_blockedShelf m_on m_counts m_doors m_list m_plan m_shelf m_trial) := hD
      refine lv_aload_n hx hb d_M_move_47 rfl (lv_at hl 0 rfl) ?_
      refine va_get (D := D) (ci := 2) (v := .int (1 : Int32)) (C := R_M) (T := F_M) (N := 18) hx hb hts (iK iW_M) hown hK hP 0 rfl rfl 0 (by decide) (hts _ (kM kw_8fca7397)) (fun _ h9 => h9) rfl d_M_move_48 ?_
      refine lv_if_eq (tgt := 56) hx hb d_M_move_51 (by decide) (fun c_19 => absurd c_19 (by decide)) (fun c_19 => ?_)
      refine lv_iconst (v := (0 : Int32)) hx hb d_M_move_54 (by decide) ?_
      exact W.iret (v := (0 : Int32)) hx hb hr (fun t ht hW => ⟨⟨(0 : Int32), ((1 : Int32), m_placeOf), rfl, hw, by rw [ht]; exact hP, va_K.moved hW.alike hK, hD⟩, hS.F ht⟩) hS.2.2 d_M_move_55
def p_M_blocked (x1 : Int32) (x2 : Int32) (m_places : Int32) (m_blockedShelf : Nat → Int32) (post : Int32 → Int32 → (Nat → Int32) → Prop) : Prop := (p_M_none x1 m_places (fun r_1 => ((r_1 = 0 → (vp_in x1 24 ∧ (vp_in x1 24 ∧ (narrow .boolean (.int (m_blockedShelf (x1).toNatClampNeg)) = .int (m_blockedShelf (x1).toNatClampNeg) ∧ post (m_blockedShelf (x1).toNatClampNeg) (0 : Int32) (upd m_blockedShelf (x1).toNatClampNeg (vp_nar .boolean x2)))))) ∧ (¬ r_1 = 0 → post (0 : Int32) (1 : Int32) m_blockedShelf))))
abbrev rm_M_blocked : Room := { frames := 2, cells := 0, slots := 0, locals := 61 }
set_option maxHeartbeats 4000000 in
set_option maxRecDepth 100000 in
theorem c_M_blocked {l : Launch} {D : va_G} {sa : Nat → Nat} {cI cZ : ClassId} {sz : Nat} {d : Nat → Nat} {m_thrownCode : Int32} {m_places : Int32} {m_front : Int32} {m_turns : Int32} {m_fetched : Int32} {m_listed : Int32} {m_planned : Int32} {m_wasExact : Int32} {m_shelves : Int32} {m_placeOf : Nat → Int32} {m_blockedShelf : Nat → Int32} {m_on : Nat → Int32} {m_counts : Nat → Int32} {m_doors : Nat → Int32} {m_list : Nat → Int32} {m_plan : Nat → Int32} {m_shelf : Nat → Int32} {m_trial : Nat → Int32} {x1 : Int32} {x2 : Int32} {post : Int32 → Int32 → (Nat → Int32) → Prop} (hw : p_M_blocked x1 x2 m_places m_blockedShelf post) : Met l y_M_blocked w_M_blocked rm_M_blocked (va_Pc [.ref (d 0), .int x1, .int x2] (kP D sa [(cI, .int), (cZ, .boolean)] (mW d cI cZ m_thrownCode m_places m_front m_turns m_fetched m_listed m_planned m_wasExact m_shelves m_placeOf m_blockedShelf m_on m_counts m_doors m_list m_plan m_shelf m_trial) sz)) (va_Qi (fun r (u : Int32 × (Nat → Int32)) => post r u.1 u.2) (fun (u : Int32 × (Nat → Int32)) t => va_P D classes (mW d cI cZ u.1 m_places m_front m_turns m_fetched m_listed m_planned m_wasExact m_shelves m_placeOf u.2 m_on m_counts m_doors m_list m_plan m_shelf m_trial) t.heap ∧ va_K D classes [(cI, .int), (cZ, .boolean)] t ∧ va_D (va_A (mW d cI cZ m_thrownCode m_places m_front m_turns m_fetched m_listed m_planned m_wasExact m_shelves m_placeOf m_blockedShelf m_on m_counts m_doors m_list m_plan m_shelf m_trial) sz) (mW d cI cZ u.1 m_places m_front m_turns m_fetched m_listed m_planned m_wasExact m_shelves m_placeOf u.2 m_on m_counts m_doors m_list m_plan m_shelf m_trial)) (va_A (mW d cI cZ m_thrownCode m_places m_front m_turns m_fetched m_listed m_planned m_wasExact m_shelves m_placeOf m_blockedShelf m_on m_counts m_doors m_list m_plan m_shelf m_trial) sz)) 0 0 (va_A (mW d cI cZ m_thrownCode m_places m_front m_turns m_fetched m_listed m_planned m_wasExact m_shelves m_placeOf m_blockedShelf m_on m_counts m_doors m_list m_plan m_shelf m_trial) sz) := by
  refine Met.ofW (cc := b_M_blocked) (maxL := 4) (ret := (some .boolean)) (by decide) rfl ?_
  intro p e s m args below meth c s₁ B hml hv
  obtain ⟨rfl, hsz, hP, hK, hD0, hZ⟩ := hv
  have hx := B.exec
  have hb := B.bytes
  have hr := B.returns
  have hts := atoms_spec (ws := w_M_blocked) B.pre
  have hown : s.vm.findClass R_M = some m.cls := findClass_of_methodNamed B.named
  have hlocks := B.notSynchronized
  subst hsz
  have hD := hD0.self (sz := s.heap.size)
  generalize hAe : (va_A (mW d cI cZ m_thrownCode m_places m_front m_turns m_fetched m_listed m_planned m_wasExact m_shelves m_placeOf m_blockedShelf m_on m_counts m_doors m_list m_plan m_shelf m_trial) s.heap.size) = A at hD hZ ⊢
  have hA : ∀ q : Nat, s.heap.size ≤ q → A q := fun q h => by rw [← hAe]; exact Or.inr h
  have hS : va_S A s.heap s.heap [] := va_S.rf
  have hl := lv_entry ([.ref (d 0), .int x1, .int x2]) (n := 4) (Nat.le_of_ble_eq_true rfl)
  rw [lg_entry_eq]
  generalize (lg_sl ([.ref (d 0), .int x1, .int x2]) ++ List.replicate (4 - (lg_sl ([.ref (d 0), .int x1, .int x2])).length) Slot.unset).toArray = ls at hl ⊢
  have hl : lv_has ls 4 [(0, .ref (d 0)), (1, .int x1), (2, .int x2)] := hl
  refine lv_aload_n hx hb d_M_blocked_0 rfl (lv_at hl 0 rfl) ?_
  refine lv_iload_n hx hb d_M_blocked_1 rfl (lv_at hl 1 rfl) ?_
  refine lv_aload_n hx hb d_M_blocked_2 rfl (lv_at hl 0 rfl) ?_
  refine va_get (D := D) (ci := 2) (v := .int m_places) (C := R_M) (T := F_M) (N := 18) hx hb hts (iK iW_M) hown hK hP 0 rfl rfl 1 (by decide) (hts _ (kM kw_7139d127)) (fun _ h9 => h9) rfl d_M_blocked_3 ?_
  have hPc := hP.sub (ws' := []) [] rfl
  have hDc := hD.sub (ws' := []) [] (by decide) rfl
  have hFc := va_free (wc := []) hD hS hA [] rfl
  refine vp_callSi (W.runS (As := [.int x1, .int m_places]) (rest := [.ref (d 0)]) ⟨hx, hb, hml, hown, hts⟩ (c_M_none hw) (cwS 2 hts (gS k_M_none kw_344abd76 kw_8e7adc0a kw_98028344) rfl rfl rfl (by decide +kernel) ⟨(Nat.le_of_ble_eq_true rfl), (Nat.le_of_ble_eq_true rfl)⟩) ⟨kP.blind, kP.of hK hPc hDc hZ hS hFc⟩ rfl rfl hl.1 rfl (lv_room (Nat.le_of_ble_eq_true rfl)) d_M_blocked_6 ⟨(Nat.le_of_ble_eq_true rfl), (Nat.le_of_ble_eq_true rfl)⟩) (fun r_1 hw => ?_)
  refine lv_if_eq (tgt := 16) hx hb d_M_blocked_9 (by decide) (fun c_2 => ?_) (fun c_2 => ?_)
  · have hw := hw.1 c_2
    refine lv_iconst (v := (0 : Int32)) hx hb d_M_blocked_16 (by decide) ?_
    refine va_put (D := D) (ci := 2) (v := .int (0 : Int32)) (ty := .int) (C := R_M) (T := F_M) (N := 18) hx hb hts (iK iW_M) t_M t_M_ok n_M hown hK hP hD hS 0 rfl rfl 0 (by decide) (hts _ (kM kw_8fca7397)) (fun _ h9 => h9) rfl (by decide +kernel) rfl rfl (Nat.le_of_ble_eq_true rfl) d_M_blocked_17 (fun H locs hP hD hS => ?_)
    have hP : va_P D classes (mW d cI cZ (0 : Int32) m_places m_front m_turns m_fetched m_listed m_planned m_wasExact m_shelves m_placeOf m_blockedShelf m_on m_counts m_doors m_list m_plan m_shelf m_trial) H := hP
    have hD : va_D A (mW d cI cZ (0 : Int32) m_places m_front m_turns m_fetched m_listed m_planned m_wasExact m_shelves m_placeOf m_blockedShelf m_on m_counts m_doors m_list m_plan m_shelf m_trial) := hD
    refine lv_aload_n hx hb d_M_blocked_20 rfl (lv_at hl 0 rfl) ?_
    refine va_get (D := D) (ci := 2) (v := .int (0 : Int32)) (C := R_M) (T := F_M) (N := 18) hx hb hts (iK iW_M) hown hK hP 0 rfl rfl 0 (by decide) (hts _ (kM kw_8fca7397)) (fun _ h9 => h9) rfl d_M_blocked_21 ?_
    refine lv_if_eq (tgt := 29) hx hb d_M_blocked_24 (by decide) (fun c_3 => ?_) (fun c_3 => absurd c_3 (by decide))
    refine lv_aload_n hx hb d_M_blocked_29 rfl (lv_at hl 0 rfl) ?_
    refine va_get (D := D) (ci := 2) (v := .ref (d 2)) (C := R_M) (T := F_M) (N := 18) hx hb hts (iK iW_M) hown hK hP 0 rfl rfl 4 (by decide) (hts _ (kM kw_f6907c18)) (fun _ h9 => h9) rfl d_M_blocked_30 ?_
    refine lv_iload_n hx hb d_M_blocked_33 rfl (lv_at hl 1 rfl) ?_
    obtain ⟨h_4, hw⟩ := hw
    refine va_zald hx hb hK hP 2 1 rfl rfl h_4 d_M_blocked_34 ?_
    refine lv_istore_n (lv' := [(3, .int (m_blockedShelf (x1).toNatClampNeg)), (0, .ref (d 0)), (1, .int x1), (2, .int x2)]) hx hb d_M_blocked_35 rfl hl (by decide) rfl (fun ls hl => ?_)
    refine lv_aload_n hx hb d_M_blocked_36 rfl (lv_at hl 1 rfl) ?_
    refine va_get (D := D) (ci := 2) (v := .ref (d 2)) (C := R_M) (T := F_M) (N := 18) hx hb hts (iK iW_M) hown hK hP 0 rfl rfl 4 (by decide) (hts _ (kM kw_f6907c18)) (fun _ h9 => h9) rfl d_M_blocked_37 ?_
    refine lv_iload_n hx hb d_M_blocked_40 rfl (lv_at hl 2 rfl) ?_
    refine lv_iload_n hx hb d_M_blocked_41 rfl (lv_at hl 3 rfl) ?_
    obtain ⟨h_5, hw⟩ := hw
    refine va_zast hx hb hK hP hD hS 2 1 rfl rfl h_5 d_M_blocked_42 (fun H locs hP hD hS => ?_)
    have hP : va_P D classes (mW d cI cZ (0 : Int32) m_places m_front m_turns m_fetched m_listed m_planned m_wasExact m_shelves m_placeOf (upd m_blockedShelf (x1).toNatClampNeg (vp_nar .boolean x2)) m_on m_counts m_doors m_list m_plan m_shelf m_trial) H := hP
    have hD : va_D A (mW d cI cZ (0 : Int32) m_places m_front m_turns m_fetched m_listed m_planned m_wasExact m_shelves m_placeOf (upd m_blockedShelf (x1).toNatClampNeg (vp_nar .boolean x2)) m_on m_counts m_doors m_list m_plan m_shelf m_trial) := hD
    refine lv_iload_n hx hb d_M_blocked_43 rfl (lv_at hl 0 rfl) ?_
    obtain ⟨h_6, hw⟩ := hw
    exact W.zret (v := (m_blockedShelf (x1).toNatClampNeg)) (ty := .boolean) hx hb hr h_6 (fun t ht hW => ⟨⟨(m_blockedShelf (x1).toNatClampNeg), ((0 : Int32), (upd m_blockedShelf (x1).toNatClampNeg (vp_nar .boolean x2))), rfl, hw, by rw [ht]; exact hP, va_K.moved hW.alike hK, hD⟩, hS.F ht⟩) hS.2.2 d_M_blocked_44
  · have hw := hw.2 c_2
    refine lv_iconst (v := (1 : Int32)) hx hb d_M_blocked_12 (by decide) ?_
    refine lv_goto (tgt := 17) hx hb d_M_blocked_13 (by decide) ?_
    refine va_put (D := D) (ci := 2) (v := .int (1 : Int32)) (ty := .int) (C := R_M) (T := F_M) (N := 18) hx hb hts (iK iW_M) t_M t_M_ok n_M hown hK hP hD hS 0 rfl rfl 0 (by decide) (hts _ (kM kw_8fca7397)) (fun _ h9 => h9) rfl (by decide +kernel) rfl rfl (Nat.le_of_ble_eq_true rfl) d_M_blocked_17 (fun H locs hP hD hS => ?_)
    have hP : va_P D classes (mW d cI cZ (1 : Int32) m_places m_front m_turns m_fetched m_listed m_planned m_wasExact m_shelves m_placeOf m_blockedShelf m_on m_counts m_doors m_list m_plan m_shelf m_trial) H := hP
    have hD : va_D A (mW d cI cZ (1 : Int32) m_places m_front m_turns m_fetched m_listed m_planned m_wasExact m_shelves m_placeOf m_blockedShelf m_on m_counts m_doors m_list m_plan m_shelf m_trial) := hD
    refine lv_aload_n hx hb d_M_blocked_20 rfl (lv_at hl 0 rfl) ?_
    refine va_get (D := D) (ci := 2) (v := .int (1 : Int32)) (C := R_M) (T := F_M) (N := 18) hx hb hts (iK iW_M) hown hK hP 0 rfl rfl 0 (by decide) (hts _ (kM kw_8fca7397)) (fun _ h9 => h9) rfl d_M_blocked_21 ?_
    refine lv_if_eq (tgt := 29) hx hb d_M_blocked_24 (by decide) (fun c_7 => absurd c_7 (by decide)) (fun c_7 => ?_)
    refine lv_iconst (v := (0 : Int32)) hx hb d_M_blocked_27 (by decide) ?_
    exact W.zret (v := (0 : Int32)) (ty := .boolean) hx hb hr rfl (fun t ht hW => ⟨⟨(0 : Int32), ((1 : Int32), m_blockedShelf), rfl, hw, by rw [ht]; exact hP, va_K.moved hW.alike hK, hD⟩, hS.F ht⟩) hS.2.2 d_M_blocked_28
