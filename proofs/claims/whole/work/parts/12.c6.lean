def p_C_unit (x1 : Int32) (shelfOf : Nat → Int32) (post : Int32 → Prop) (pex : String → Prop) : Prop := (p_C_needUnit x1 ((vp_in x1 20 ∧ post (shelfOf (x1).toNatClampNeg))) (fun E_2 => pex E_2))
abbrev rm_C_unit : Room := { frames := 7, cells := 1, slots := 6, locals := 120 }
set_option maxHeartbeats 4000000 in
set_option maxRecDepth 100000 in
theorem c_C_unit {l : Launch} (hl9 : l.stackTraces = false) {D : va_G} {sa : Nat → Nat} {cI cZ : ClassId} {sz : Nat} {a : Nat → Nat} {places : Int32} {listed : Int32} {front : Int32} {turns : Int32} {fetched : Int32} {placeOf : Nat → Int32} {shelfAt : Nat → Int32} {isBlocked : Nat → Int32} {shelfOf : Nat → Int32} {counts : Nat → Int32} {isOpen : Nat → Int32} {list : Nat → Int32} {ring : Int32} {stops : Int32} {fewest : Int32} {isExact : Int32} {shelves : Nat → Int32} {stopPlaces : Nat → Int32} {taken : Nat → Int32} {trial : Nat → Int32} {best : Nat → Int32} {x1 : Int32} {post : Int32 → Prop} {pex : String → Prop} (hw : p_C_unit x1 shelfOf post pex) : vx_Met l y_C_unit w_C_unit rm_C_unit (va_Pc [.ref (a 0), .int x1] (kP D sa [(cI, .int), (cZ, .boolean)] (cW a cI cZ places listed front turns fetched placeOf shelfAt isBlocked shelfOf counts isOpen list ring stops fewest isExact shelves stopPlaces taken trial best) sz)) (va_Qi (fun r (u : Unit) => post r) (fun (u : Unit) t => va_P D classes (cW a cI cZ places listed front turns fetched placeOf shelfAt isBlocked shelfOf counts isOpen list ring stops fewest isExact shelves stopPlaces taken trial best) t.heap ∧ va_K D classes [(cI, .int), (cZ, .boolean)] t ∧ va_D (va_A (cW a cI cZ places listed front turns fetched placeOf shelfAt isBlocked shelfOf counts isOpen list ring stops fewest isExact shelves stopPlaces taken trial best) sz) (cW a cI cZ places listed front turns fetched placeOf shelfAt isBlocked shelfOf counts isOpen list ring stops fewest isExact shelves stopPlaces taken trial best)) (va_A (cW a cI cZ places listed front turns fetched placeOf shelfAt isBlocked shelfOf counts isOpen list ring stops fewest isExact shelves stopPlaces taken trial best) sz)) (vx_X (fun (u : String) => pex u) (fun E (u : String) t => u = E ∧ va_P D classes (cW a cI cZ places listed front turns fetched placeOf shelfAt isBlocked shelfOf counts isOpen list ring stops fewest isExact shelves stopPlaces taken trial best) t.heap ∧ va_K D classes [(cI, .int), (cZ, .boolean)] t ∧ va_D (va_A (cW a cI cZ places listed front turns fetched placeOf shelfAt isBlocked shelfOf counts isOpen list ring stops fewest isExact shelves stopPlaces taken trial best) sz) (cW a cI cZ places listed front turns fetched placeOf shelfAt isBlocked shelfOf counts isOpen list ring stops fewest isExact shelves stopPlaces taken trial best)) (va_A (cW a cI cZ places listed front turns fetched placeOf shelfAt isBlocked shelfOf counts isOpen list ring stops fewest isExact shelves stopPlaces taken trial best) sz)) 1 6 (va_A (cW a cI cZ places listed front turns fetched placeOf shelfAt isBlocked shelfOf counts isOpen list ring stops fewest isExact shelves stopPlaces taken trial best) sz) := by
  refine vx_ofW (cc := b_C_unit) (maxL := 2) (ret := (some .int)) (by decide) rfl ?_
  intro p e s m args below meth c s₁ B hml hEx hv
  obtain ⟨rfl, hsz, hP, hK, hD0, hZ⟩ := hv
  have hx := B.exec
  have hb := B.bytes
  have hr := B.returns
  have hts := atoms_spec (ws := w_C_unit) B.pre
  have hown : s.vm.findClass R_C = some m.cls := findClass_of_methodNamed B.named
  have hlocks := B.notSynchronized
  subst hsz
  have hD := hD0.self (sz := s.heap.size)
  generalize hAe : (va_A (cW a cI cZ places listed front turns fetched placeOf shelfAt isBlocked shelfOf counts isOpen list ring stops fewest isExact shelves stopPlaces taken trial best) s.heap.size) = A at hD hZ ⊢
  have hA : ∀ q : Nat, s.heap.size ≤ q → A q := fun q h => by rw [← hAe]; exact Or.inr h
  have hS : va_S A s.heap s.heap [] := va_S.rf
  have hl := lv_entry ([.ref (a 0), .int x1]) (n := 2) (Nat.le_of_ble_eq_true rfl)
  rw [lg_entry_eq]
  generalize (lg_sl ([.ref (a 0), .int x1]) ++ List.replicate (2 - (lg_sl ([.ref (a 0), .int x1])).length) Slot.unset).toArray = ls at hl ⊢
  have hl : lv_has ls 2 [(0, .ref (a 0)), (1, .int x1)] := hl
  refine lv_iload_n hx hb d_C_unit_0 rfl (lv_at hl 1 rfl) ?_
  have hPc := hP.sub (ws' := []) [] rfl
  have hDc := hD.sub (ws' := []) [] (by decide) rfl
  have hFc := va_free (wc := []) hD hS hA [] rfl
  refine vx_callv (vx_runS (As := [.int x1]) (rest := []) ⟨hx, hb, hml, hown, hts⟩ (c_C_needUnit hl9 hw) (cwS 1 hts (gS k_C_needUnit kw_1da68db5 kw_44579350 kw_91859716) rfl rfl rfl (by decide +kernel) ⟨(Nat.le_of_ble_eq_true rfl), (Nat.le_of_ble_eq_true rfl)⟩) ⟨kP.blind, kP.of hK hPc hDc hZ hS hFc⟩ rfl rfl hl.1 rfl (lv_room (Nat.le_of_ble_eq_true rfl)) d_C_unit_1 ⟨(Nat.le_of_ble_eq_true rfl), (Nat.le_of_ble_eq_true rfl)⟩) hS (fun q _ h => hFc q h) hFc (fun q _ h => hFc q h) (fun E9 ce q9 u t H1 locs ht hvm hw hB hz1 hk1 hS hce hcv hcl => ?_) (fun u t H1 locs ht hvm hw hB hz1 hk1 hS => ?_)
  · obtain ⟨E_2, rfl⟩ : ∃ z, z = u := ⟨_, rfl⟩
    obtain ⟨hE9, hP1, hK1, hD1⟩ := hB
    try dsimp only at hw hP1 hD1 hE9
    subst hE9
    rw [ht] at hP1
    have hK1 := va_K.moved hvm.symm hK1
    obtain ⟨hP, hD⟩ := va_join (wr := cW a cI cZ places listed front turns fetched placeOf shelfAt isBlocked shelfOf counts isOpen list ring stops fewest isExact shelves stopPlaces taken trial best) (w1 := []) hP hD [] [0, 1, 2, 3, 4, 5, 6, 7, 8, 9, 10, 11, 12, 13] rfl rfl (by decide) (by decide) hk1 hFc hP1 hD1
    generalize H1 = H at hP hS hce ⊢
    have hP : va_P D classes (cW a cI cZ places listed front turns fetched placeOf shelfAt isBlocked shelfOf counts isOpen list ring stops fewest isExact shelves stopPlaces taken trial best) H := hP
    have hD : va_D A (cW a cI cZ places listed front turns fetched placeOf shelfAt isBlocked shelfOf counts isOpen list ring stops fewest isExact shelves stopPlaces taken trial best) := hD
    exact vx_out (fun x hx => (hEx x hx).elim) hlocks hce hcv hcl (fun t9 h9 ha => ⟨E_2, hw, ⟨rfl, by rw [h9]; exact hP, va_K.moved ha hK, hD⟩, hS.F h9⟩) hS.2.2 (Nat.le_of_ble_eq_true rfl) (Nat.le_of_ble_eq_true rfl)
  · obtain ⟨⟩ := u
    obtain ⟨hP1, hK1, hD1⟩ := hB
    try dsimp only at hw hP1 hD1
    rw [ht] at hP1
    have hK1 := va_K.moved hvm.symm hK1
    obtain ⟨hP, hD⟩ := va_join (wr := cW a cI cZ places listed front turns fetched placeOf shelfAt isBlocked shelfOf counts isOpen list ring stops fewest isExact shelves stopPlaces taken trial best) (w1 := []) hP hD [] [0, 1, 2, 3, 4, 5, 6, 7, 8, 9, 10, 11, 12, 13] rfl rfl (by decide) (by decide) hk1 hFc hP1 hD1
    generalize H1 = H at hP hS ⊢
    have hP : va_P D classes (cW a cI cZ places listed front turns fetched placeOf shelfAt isBlocked shelfOf counts isOpen list ring stops fewest isExact shelves stopPlaces taken trial best) H := hP
    have hD : va_D A (cW a cI cZ places listed front turns fetched placeOf shelfAt isBlocked shelfOf counts isOpen list ring stops fewest isExact shelves stopPlaces taken trial best) := hD
    refine lv_aload_n hx hb d_C_unit_4 rfl (lv_at hl 0 rfl) ?_
    refine va_get (D := D) (ci := 0) (v := .ref (a 4)) (C := R_C) (T := F_C) (N := 13) hx hb hts (iK iW_C) hown hK hP 0 rfl rfl 4 (by decide) (hts _ (kM kw_03cac826)) (fun _ h9 => h9) rfl d_C_unit_5 ?_
    refine lv_iload_n hx hb d_C_unit_8 rfl (lv_at hl 1 rfl) ?_
    obtain ⟨h_1, hw⟩ := hw
    refine va_iald hx hb hK hP 4 0 rfl rfl h_1 d_C_unit_9 ?_
    refine vx_ret ?_
    exact W.iret (v := (shelfOf (x1).toNatClampNeg)) hx hb hr (fun t ht hW => ⟨⟨(shelfOf (x1).toNatClampNeg), (), rfl, hw, by rw [ht]; exact hP, va_K.moved hW.alike hK, hD⟩, hS.F ht⟩) hS.2.2 d_C_unit_10
def p_C_unitsOnShelves (shelfOf : Nat → Int32) (post : Int32 → Prop) : Prop := (p_C_unitsOn (-1 : Int32) shelfOf (fun r_1 => post ((20 : Int32) - r_1)))
abbrev rm_C_unitsOnShelves : Room := { frames := 2, cells := 0, slots := 0, locals := 63 }
set_option maxHeartbeats 4000000 in
set_option maxRecDepth 100000 in
theorem c_C_unitsOnShelves {l : Launch} {D : va_G} {sa : Nat → Nat} {cI cZ : ClassId} {sz : Nat} {a : Nat → Nat} {places : Int32} {listed : Int32} {front : Int32} {turns : Int32} {fetched : Int32} {placeOf : Nat → Int32} {shelfAt : Nat → Int32} {isBlocked : Nat → Int32} {shelfOf : Nat → Int32} {counts : Nat → Int32} {isOpen : Nat → Int32} {list : Nat → Int32} {ring : Int32} {stops : Int32} {fewest : Int32} {isExact : Int32} {shelves : Nat → Int32} {stopPlaces : Nat → Int32} {taken : Nat → Int32} {trial : Nat → Int32} {best : Nat → Int32} {post : Int32 → Prop} (hw : p_C_unitsOnShelves shelfOf post) : Met l y_C_unitsOnShelves w_C_unitsOnShelves rm_C_unitsOnShelves (va_Pc [.ref (a 0)] (kP D sa [(cI, .int), (cZ, .boolean)] (cW a cI cZ places listed front turns fetched placeOf shelfAt isBlocked shelfOf counts isOpen list ring stops fewest isExact shelves stopPlaces taken trial best) sz)) (vp_Si post) 0 0 (fun _ => False) := by
  refine Met.ofW (cc := b_C_unitsOnShelves) (maxL := 1) (ret := (some .int)) (by decide) rfl ?_
  intro p e s m args below meth c s₁ B hml hv
  obtain ⟨rfl, hsz, hP, hK, hD0, hZ⟩ := hv
  have hx := B.exec
  have hb := B.bytes
  have hr := B.returns
  have hts := atoms_spec (ws := w_C_unitsOnShelves) B.pre
  have hown : s.vm.findClass R_C = some m.cls := findClass_of_methodNamed B.named
  have hlocks := B.notSynchronized
  subst hsz
  have hD := hD0.self (sz := s.heap.size)
  generalize hAe : (va_A (cW a cI cZ places listed front turns fetched placeOf shelfAt isBlocked shelfOf counts isOpen list ring stops fewest isExact shelves stopPlaces taken trial best) s.heap.size) = A at hD hZ
  have hA : ∀ q : Nat, s.heap.size ≤ q → A q := fun q h => by rw [← hAe]; exact Or.inr h
  have hS : va_S A s.heap s.heap [] := va_S.rf
  have hl := lv_entry ([.ref (a 0)]) (n := 1) (Nat.le_of_ble_eq_true rfl)
  rw [lg_entry_eq]
  generalize (lg_sl ([.ref (a 0)]) ++ List.replicate (1 - (lg_sl ([.ref (a 0)])).length) Slot.unset).toArray = ls at hl ⊢
  have hl : lv_has ls 1 [(0, .ref (a 0))] := hl
  refine lv_bipush (v := (20 : Int32)) hx hb d_C_unitsOnShelves_0 (by decide) ?_
  refine lv_aload_n hx hb d_C_unitsOnShelves_2 rfl (lv_at hl 0 rfl) ?_
  refine lv_iconst (v := (-1 : Int32)) hx hb d_C_unitsOnShelves_3 (by decide) ?_
  have hPc := hP
  have hDc := hD
  have hFc := va_free (wc := cW a cI cZ places listed front turns fetched placeOf shelfAt isBlocked shelfOf counts isOpen list ring stops fewest isExact shelves stopPlaces taken trial best) hD hS hA [0, 1, 2, 3, 4, 5, 6, 7, 8, 9, 10, 11, 12, 13] rfl
  refine vp_callSi (W.runV (As := [.int (-1 : Int32)]) (rest := [.int (20 : Int32)]) ⟨hx, hb, hml, hown, hts⟩ (c_C_unitsOn hw) (cwV 1 hts (gV k_C_unitsOn kw_078fa5c8 kw_6fa1b578 kw_f7c9ea3c kw_91859716) rfl rfl rfl (by decide +kernel) ⟨(Nat.le_of_ble_eq_true rfl), (Nat.le_of_ble_eq_true rfl)⟩) ⟨kP.blind, va_recv hK hPc (ci := 0) (q0 := 0) rfl rfl, kP.of hK hPc hDc hZ hS hFc⟩ rfl rfl hl.1 rfl (lv_room (Nat.le_of_ble_eq_true rfl)) d_C_unitsOnShelves_4 ⟨(Nat.le_of_ble_eq_true rfl), (Nat.le_of_ble_eq_true rfl)⟩) (fun r_1 hw => ?_)
  refine lv_isub hx hb d_C_unitsOnShelves_7 ?_
  exact W.iret (v := ((20 : Int32) - r_1)) hx hb hr (fun t ht _ => ⟨((20 : Int32) - r_1), rfl, hw, ht⟩) (by simp) d_C_unitsOnShelves_8
def p_C_count (x1 : Int32) (places : Int32) (listed : Int32) (front : Int32) (turns : Int32) (fetched : Int32) (shelfOf : Nat → Int32) (post : Int32 → Prop) : Prop := ((x1 = (0 : Int32) → post places) ∧ (¬ x1 = (0 : Int32) → ((x1 = (1 : Int32) → ((¬ places = 0 → post front) ∧ (places = 0 → post (-1 : Int32)))) ∧ (¬ x1 = (1 : Int32) → ((x1 = (2 : Int32) → post turns) ∧ (¬ x1 = (2 : Int32) → ((x1 = (3 : Int32) → (p_C_unitsOnShelves shelfOf (fun r_6 => post r_6))) ∧ (¬ x1 = (3 : Int32) → ((x1 = (4 : Int32) → post listed) ∧ (¬ x1 = (4 : Int32) → ((x1 = (5 : Int32) → post fetched) ∧ (¬ x1 = (5 : Int32) → post (-1 : Int32)))))))))))))
abbrev rm_C_count : Room := { frames := 3, cells := 0, slots := 0, locals := 83 }
set_option maxHeartbeats 4000000 in
set_option maxRecDepth 100000 in
theorem c_C_count {l : Launch} {D : va_G} {sa : Nat → Nat} {cI cZ : ClassId} {sz : Nat} {a : Nat → Nat} {places : Int32} {listed : Int32} {front : Int32} {turns : Int32} {fetched : Int32} {placeOf : Nat → Int32} {shelfAt : Nat → Int32} {isBlocked : Nat → Int32} {shelfOf : Nat → Int32} {counts : Nat → Int32} {isOpen : Nat → Int32} {list : Nat → Int32} {ring : Int32} {stops : Int32} {fewest : Int32} {isExact : Int32} {shelves : Nat → Int32} {stopPlaces : Nat → Int32} {taken : Nat → Int32} {trial : Nat → Int32} {best : Nat → Int32} {x1 : Int32} {post : Int32 → Prop} (hw : p_C_count x1 places listed front turns fetched shelfOf post) : Met l y_C_count w_C_count rm_C_count (va_Pc [.ref (a 0), .int x1] (kP D sa [(cI, .int), (cZ, .boolean)] (cW a cI cZ places listed front turns fetched placeOf shelfAt isBlocked shelfOf counts isOpen list ring stops fewest isExact shelves stopPlaces taken trial best) sz)) (vp_Si post) 0 0 (fun _ => False) := by
  refine Met.ofW (cc := b_C_count) (maxL := 2) (ret := (some .int)) (by decide) rfl ?_
  intro p e s m args below meth c s₁ B hml hv
  obtain ⟨rfl, hsz, hP, hK, hD0, hZ⟩ := hv
  have hx := B.exec
  have hb := B.bytes
  have hr := B.returns
  have hts := atoms_spec (ws := w_C_count) B.pre
  have hown : s.vm.findClass R_C = some m.cls := findClass_of_methodNamed B.named
  have hlocks := B.notSynchronized
  subst hsz
  have hD := hD0.self (sz := s.heap.size)
  generalize hAe : (va_A (cW a cI cZ places listed front turns fetched placeOf shelfAt isBlocked shelfOf counts isOpen list ring stops fewest isExact shelves stopPlaces taken trial best) s.heap.size) = A at hD hZ
  have hA : ∀ q : Nat, s.heap.size ≤ q → A q := fun q h => by rw [← hAe]; exact Or.inr h
  have hS : va_S A s.heap s.heap [] := va_S.rf
  have hl := lv_entry ([.ref (a 0), .int x1]) (n := 2) (Nat.le_of_ble_eq_true rfl)
  rw [lg_entry_eq]
  generalize (lg_sl ([.ref (a 0), .int x1]) ++ List.replicate (2 - (lg_sl ([.ref (a 0), .int x1])).length) Slot.unset).toArray = ls at hl ⊢
  have hl : lv_has ls 2 [(0, .ref (a 0)), (1, .int x1)] := hl
  refine lv_iload_n hx hb d_C_count_0 rfl (lv_at hl 1 rfl) ?_
  rcases Classical.em (x1 = (0 : Int32)) with c_1 | c_1
  · have hw := hw.1 c_1
    refine lv_tableIn (tgt := 40) hx hb d_C_count_1 (by rw [c_1]; decide) (by rw [c_1]; decide) (by rw [c_1]; rfl) (by decide) ?_
    refine lv_aload_n hx hb d_C_count_40 rfl (lv_at hl 0 rfl) ?_
    refine va_get (D := D) (ci := 0) (v := .int places) (C := R_C) (T := F_C) (N := 13) hx hb hts (iK iW_C) hown hK hP 0 rfl rfl 0 (by decide) (hts _ (kM kw_e5f6e787)) (fun _ h9 => h9) rfl d_C_count_41 ?_
    exact W.iret (v := places) hx hb hr (fun t ht _ => ⟨places, rfl, hw, ht⟩) (by simp) d_C_count_44
  · have hw := hw.2 c_1
    rcases Classical.em (x1 = (1 : Int32)) with c_2 | c_2
    · have hw := hw.1 c_2
      refine lv_tableIn (tgt := 45) hx hb d_C_count_1 (by rw [c_2]; decide) (by rw [c_2]; decide) (by rw [c_2]; rfl) (by decide) ?_
      refine lv_aload_n hx hb d_C_count_45 rfl (lv_at hl 0 rfl) ?_
      refine va_get (D := D) (ci := 0) (v := .int places) (C := R_C) (T := F_C) (N := 13) hx hb hts (iK iW_C) hown hK hP 0 rfl rfl 0 (by decide) (hts _ (kM kw_e5f6e787)) (fun _ h9 => h9) rfl d_C_count_46 ?_
      refine lv_if_ne (tgt := 56) hx hb d_C_count_49 (by decide) (fun c_3 => ?_) (fun c_3 => ?_)
      · have hw := hw.1 c_3
        refine lv_aload_n hx hb d_C_count_56 rfl (lv_at hl 0 rfl) ?_
        refine va_get (D := D) (ci := 0) (v := .int front) (C := R_C) (T := F_C) (N := 13) hx hb hts (iK iW_C) hown hK hP 0 rfl rfl 10 (by decide) (hts _ (kM kw_e1db8a3f)) (fun _ h9 => h9) rfl d_C_count_57 ?_
        exact W.iret (v := front) hx hb hr (fun t ht _ => ⟨front, rfl, hw, ht⟩) (by simp) d_C_count_60
      · have hw := hw.2 c_3
        refine lv_iconst (v := (-1 : Int32)) hx hb d_C_count_52 (by decide) ?_
        refine lv_goto (tgt := 60) hx hb d_C_count_53 (by decide) ?_
        exact W.iret (v := (-1 : Int32)) hx hb hr (fun t ht _ => ⟨(-1 : Int32), rfl, hw, ht⟩) (by simp) d_C_count_60
    · have hw := hw.2 c_2
      rcases Classical.em (x1 = (2 : Int32)) with c_4 | c_4
      · have hw := hw.1 c_4
        refine lv_tableIn (tgt := 61) hx hb d_C_count_1 (by rw [c_4]; decide) (by rw [c_4]; decide) (by rw [c_4]; rfl) (by decide) ?_
        refine lv_aload_n hx hb d_C_count_61 rfl (lv_at hl 0 rfl) ?_
        refine va_get (D := D) (ci := 0) (v := .int turns) (C := R_C) (T := F_C) (N := 13) hx hb hts (iK iW_C) hown hK hP 0 rfl rfl 11 (by decide) (hts _ (kM kw_dae667e5)) (fun _ h9 => h9) rfl d_C_count_62 ?_
        exact W.iret (v := turns) hx hb hr (fun t ht _ => ⟨turns, rfl, hw, ht⟩) (by simp) d_C_count_65
      · have hw := hw.2 c_4
        rcases Classical.em (x1 = (3 : Int32)) with c_5 | c_5
        · have hw := hw.1 c_5
          refine lv_tableIn (tgt := 66) hx hb d_C_count_1 (by rw [c_5]; decide) (by rw [c_5]; decide) (by rw [c_5]; rfl) (by decide) ?_
          refine lv_aload_n hx hb d_C_count_66 rfl (lv_at hl 0 rfl) ?_
          have hPc := hP
          have hDc := hD
          have hFc := va_free (wc := cW a cI cZ places listed front turns fetched placeOf shelfAt isBlocked shelfOf counts isOpen list ring stops fewest isExact shelves stopPlaces taken trial best) hD hS hA [0, 1, 2, 3, 4, 5, 6, 7, 8, 9, 10, 11, 12, 13] rfl
          refine vp_callSi (W.runV (As := []) (rest := []) ⟨hx, hb, hml, hown, hts⟩ (c_C_unitsOnShelves hw) (cwV 0 hts (gV k_C_unitsOnShelves kw_9463228b kw_6e6ea7bf kw_25b24219 kw_91859716) rfl rfl rfl (by decide +kernel) ⟨(Nat.le_of_ble_eq_true rfl), (Nat.le_of_ble_eq_true rfl)⟩) ⟨kP.blind, va_recv hK hPc (ci := 0) (q0 := 0) rfl rfl, kP.of hK hPc hDc hZ hS hFc⟩ rfl rfl hl.1 rfl (lv_room (Nat.le_of_ble_eq_true rfl)) d_C_count_67 ⟨(Nat.le_of_ble_eq_true rfl), (Nat.le_of_ble_eq_true rfl)⟩) (fun r_6 hw => ?_)
          exact W.iret (v := r_6) hx hb hr (fun t ht _ => ⟨r_6, rfl, hw, ht⟩) (by simp) d_C_count_70
        · have hw := hw.2 c_5
          rcases Classical.em (x1 = (4 : Int32)) with c_7 | c_7
          · have hw := hw.1 c_7
            refine lv_tableIn (tgt := 71) hx hb d_C_count_1 (by rw [c_7]; decide) (by rw [c_7]; decide) (by rw [c_7]; rfl) (by decide) ?_
            refine lv_aload_n hx hb d_C_count_71 rfl (lv_at hl 0 rfl) ?_
            refine va_get (D := D) (ci := 0) (v := .int listed) (C := R_C) (T := F_C) (N := 13) hx hb hts (iK iW_C) hown hK hP 0 rfl rfl 9 (by decide) (hts _ (kM kw_f614f36e)) (fun _ h9 => h9) rfl d_C_count_72 ?_
            exact W.iret (v := listed) hx hb hr (fun t ht _ => ⟨listed, rfl, hw, ht⟩) (by simp) d_C_count_75
          · have hw := hw.2 c_7
            rcases Classical.em (x1 = (5 : Int32)) with c_8 | c_8
            · have hw := hw.1 c_8
              refine lv_tableIn (tgt := 76) hx hb d_C_count_1 (by rw [c_8]; decide) (by rw [c_8]; decide) (by rw [c_8]; rfl) (by decide) ?_
              refine lv_aload_n hx hb d_C_count_76 rfl (lv_at hl 0 rfl) ?_
              refine va_get (D := D) (ci := 0) (v := .int fetched) (C := R_C) (T := F_C) (N := 13) hx hb hts (iK iW_C) hown hK hP 0 rfl rfl 12 (by decide) (hts _ (kM kw_0d27b205)) (fun _ h9 => h9) rfl d_C_count_77 ?_
              exact W.iret (v := fetched) hx hb hr (fun t ht _ => ⟨fetched, rfl, hw, ht⟩) (by simp) d_C_count_80
            · have hw := hw.2 c_8
              refine lv_tableOut (tgt := 81) hx hb d_C_count_1 (sw_out (n := 6) (by decide) (by decide) (fun k hk => match k, hk with | 0, _ => c_1 | 1, _ => c_2 | 2, _ => c_4 | 3, _ => c_5 | 4, _ => c_7 | 5, _ => c_8 | k + 6, hk => absurd hk (by omega))) (by decide) ?_
              refine lv_iconst (v := (-1 : Int32)) hx hb d_C_count_81 (by decide) ?_
              exact W.iret (v := (-1 : Int32)) hx hb hr (fun t ht _ => ⟨(-1 : Int32), rfl, hw, ht⟩) (by simp) d_C_count_82
