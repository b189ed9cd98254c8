def p_C_setPlace (x1 : Int32) (x2 : Int32) (placeOf : Nat → Int32) (shelfAt : Nat → Int32) (post : (Nat → Int32) → (Nat → Int32) → Prop) : Prop := (vp_in x1 24 ∧ (vp_in x2 24 ∧ post (upd placeOf (x1).toNatClampNeg x2) (upd shelfAt (x2).toNatClampNeg x1)))
abbrev rm_C_setPlace : Room := { frames := 1, cells := 0, slots := 0, locals := 40 }
set_option maxHeartbeats 4000000 in
set_option maxRecDepth 100000 in
theorem c_C_setPlace {l : Launch} {D : va_G} {sa : Nat → Nat} {cI cZ : ClassId} {sz : Nat} {a : Nat → Nat} {places : Int32} {listed : Int32} {front : Int32} {turns : Int32} {fetched : Int32} {placeOf : Nat → Int32} {shelfAt : Nat → Int32} {isBlocked : Nat → Int32} {shelfOf : Nat → Int32} {counts : Nat → Int32} {isOpen : Nat → Int32} {list : Nat → Int32} {ring : Int32} {stops : Int32} {fewest : Int32} {isExact : Int32} {shelves : Nat → Int32} {stopPlaces : Nat → Int32} {taken : Nat → Int32} {trial : Nat → Int32} {best : Nat → Int32} {x1 : Int32} {x2 : Int32} {post : (Nat → Int32) → (Nat → Int32) → Prop} (hw : p_C_setPlace x1 x2 placeOf shelfAt post) : Met l y_C_setPlace w_C_setPlace rm_C_setPlace (va_Pc [.ref (a 0), .int x1, .int x2] (kP D sa [(cI, .int), (cZ, .boolean)] (cW a cI cZ places listed front turns fetched placeOf shelfAt isBlocked shelfOf counts isOpen list ring stops fewest isExact shelves stopPlaces taken trial best) sz)) (va_Qv (fun (u : (Nat → Int32) × (Nat → Int32)) => post u.1 u.2) (fun (u : (Nat → Int32) × (Nat → Int32)) t => va_P D classes (cW a cI cZ places listed front turns fetched u.1 u.2 isBlocked shelfOf counts isOpen list ring stops fewest isExact shelves stopPlaces taken trial best) t.heap ∧ va_K D classes [(cI, .int), (cZ, .boolean)] t ∧ va_D (va_A (cW a cI cZ places listed front turns fetched placeOf shelfAt isBlocked shelfOf counts isOpen list ring stops fewest isExact shelves stopPlaces taken trial best) sz) (cW a cI cZ places listed front turns fetched u.1 u.2 isBlocked shelfOf counts isOpen list ring stops fewest isExact shelves stopPlaces taken trial best)) (va_A (cW a cI cZ places listed front turns fetched placeOf shelfAt isBlocked shelfOf counts isOpen list ring stops fewest isExact shelves stopPlaces taken trial best) sz)) 0 0 (va_A (cW a cI cZ places listed front turns fetched placeOf shelfAt isBlocked shelfOf counts isOpen list ring stops fewest isExact shelves stopPlaces taken trial best) sz) := by
  refine Met.ofW (cc := b_C_setPlace) (maxL := 3) (ret := none) (by decide) rfl ?_
  intro p e s m args below meth c s₁ B hml hv
  obtain ⟨rfl, hsz, hP, hK, hD0, hZ⟩ := hv
  have hx := B.exec
  have hb := B.bytes
  have hr := B.returns
  have hts := atoms_spec (ws := w_C_setPlace) B.pre
  have hown : s.vm.findClass R_C = some m.cls := findClass_of_methodNamed B.named
  have hlocks := B.notSynchronized
  subst hsz
  have hD := hD0.self (sz := s.heap.size)
  generalize hAe : (va_A (cW a cI cZ places listed front turns fetched placeOf shelfAt isBlocked shelfOf counts isOpen list ring stops fewest isExact shelves stopPlaces taken trial best) s.heap.size) = A at hD hZ ⊢
  have hA : ∀ q : Nat, s.heap.size ≤ q → A q := fun q h => by rw [← hAe]; exact Or.inr h
  have hS : va_S A s.heap s.heap [] := va_S.rf
  have hl := lv_entry ([.ref (a 0), .int x1, .int x2]) (n := 3) (Nat.le_of_ble_eq_true rfl)
  rw [lg_entry_eq]
  generalize (lg_sl ([.ref (a 0), .int x1, .int x2]) ++ List.replicate (3 - (lg_sl ([.ref (a 0), .int x1, .int x2])).length) Slot.unset).toArray = ls at hl ⊢
  have hl : lv_has ls 3 [(0, .ref (a 0)), (1, .int x1), (2, .int x2)] := hl
  refine lv_aload_n hx hb d_C_setPlace_0 rfl (lv_at hl 0 rfl) ?_
  refine va_get (D := D) (ci := 0) (v := .ref (a 1)) (C := R_C) (T := F_C) (N := 13) hx hb hts (iK iW_C) hown hK hP 0 rfl rfl 1 (by decide) (hts _ (kM kw_47d73e1c)) (fun _ h9 => h9) rfl d_C_setPlace_1 ?_
  refine lv_iload_n hx hb d_C_setPlace_4 rfl (lv_at hl 1 rfl) ?_
  refine lv_iload_n hx hb d_C_setPlace_5 rfl (lv_at hl 2 rfl) ?_
  obtain ⟨h_1, hw⟩ := hw
  refine va_iast hx hb hK hP hD hS 1 0 rfl rfl h_1 d_C_setPlace_6 (fun H locs hP hD hS => ?_)
  have hP : va_P D classes (cW a cI cZ places listed front turns fetched (upd placeOf (x1).toNatClampNeg x2) shelfAt isBlocked shelfOf counts isOpen list ring stops fewest isExact shelves stopPlaces taken trial best) H := hP
  have hD : va_D A (cW a cI cZ places listed front turns fetched (upd placeOf (x1).toNatClampNeg x2) shelfAt isBlocked shelfOf counts isOpen list ring stops fewest isExact shelves stopPlaces taken trial best) := hD
  refine lv_aload_n hx hb d_C_setPlace_7 rfl (lv_at hl 0 rfl) ?_
  refine va_get (D := D) (ci := 0) (v := .ref (a 2)) (C := R_C) (T := F_C) (N := 13) hx hb hts (iK iW_C) hown hK hP 0 rfl rfl 2 (by decide) (hts _ (kM kw_99734f87)) (fun _ h9 => h9) rfl d_C_setPlace_8 ?_
  refine lv_iload_n hx hb d_C_setPlace_11 rfl (lv_at hl 2 rfl) ?_
  refine lv_iload_n hx hb d_C_setPlace_12 rfl (lv_at hl 1 rfl) ?_
  obtain ⟨h_2, hw⟩ := hw
  refine va_iast hx hb hK hP hD hS 2 0 rfl rfl h_2 d_C_setPlace_13 (fun H locs hP hD hS => ?_)
  have hP : va_P D classes (cW a cI cZ places listed front turns fetched (upd placeOf (x1).toNatClampNeg x2) (upd shelfAt (x2).toNatClampNeg x1) isBlocked shelfOf counts isOpen list ring stops fewest isExact shelves stopPlaces taken trial best) H := hP
  have hD : va_D A (cW a cI cZ places listed front turns fetched (upd placeOf (x1).toNatClampNeg x2) (upd shelfAt (x2).toNatClampNeg x1) isBlocked shelfOf counts isOpen list ring stops fewest isExact shelves stopPlaces taken trial best) := hD
  exact W.vret hx hb hr (fun t ht hW => ⟨⟨((upd placeOf (x1).toNatClampNeg x2), (upd shelfAt (x2).toNatClampNeg x1)), rfl, hw, by rw [ht]; exact hP, va_K.moved hW.alike hK, hD⟩, hS.F ht⟩) hS.2.2 d_C_setPlace_14
def p_C_move (x1 : Int32) (x2 : Int32) (places : Int32) (placeOf : Nat → Int32) (shelfAt : Nat → Int32) (isOpen : Nat → Int32) (post : Int32 → (Nat → Int32) → (Nat → Int32) → Prop) (pex : String → (Nat → Int32) → (Nat → Int32) → Prop) : Prop := (p_C_needShelf x1 places ((p_C_needShelf x2 places ((p_C_needClosedDoors isOpen (((¬ x1 = x2 → (vp_in x1 24 ∧ (vp_in x2 24 ∧ (p_C_setPlace x1 (placeOf (x2).toNatClampNeg) placeOf shelfAt (fun placeOf_4 shelfAt_5 => (p_C_setPlace x2 (placeOf (x1).toNatClampNeg) placeOf_4 shelfAt_5 (fun placeOf_6 shelfAt_7 => (p_C_distance (placeOf (x1).toNatClampNeg) (placeOf (x2).toNatClampNeg) places (fun r_8 => post r_8 placeOf_6 shelfAt_7))))))))) ∧ (x1 = x2 → pex "java/lang/IllegalStateException" placeOf shelfAt))) (fun E_9 => pex E_9 placeOf shelfAt))) (fun E_10 => pex E_10 placeOf shelfAt))) (fun E_11 => pex E_11 placeOf shelfAt))
abbrev rm_C_move : Room := { frames := 7, cells := 4, slots := 24, locals := 121 }
set_option maxHeartbeats 4000000 in
set_option maxRecDepth 100000 in
theorem c_C_move {l : Launch} (hl9 : l.stackTraces = false) {D : va_G} {sa : Nat → Nat} {cI cZ : ClassId} {sz : Nat} {a : Nat → Nat} {places : Int32} {listed : Int32} {front : Int32} {turns : Int32} {fetched : Int32} {placeOf : Nat → Int32} {shelfAt : Nat → Int32} {isBlocked : Nat → Int32} {shelfOf : Nat → Int32} {counts : Nat → Int32} {isOpen : Nat → Int32} {list : Nat → Int32} {ring : Int32} {stops : Int32} {fewest : Int32} {isExact : Int32} {shelves : Nat → Int32} {stopPlaces : Nat → Int32} {taken : Nat → Int32} {trial : Nat → Int32} {best : Nat → Int32} {x1 : Int32} {x2 : Int32} {post : Int32 → (Nat → Int32) → (Nat → Int32) → Prop} {pex : String → (Nat → Int32) → (Nat → Int32) → Prop} (hw : p_C_move x1 x2 places placeOf shelfAt isOpen post pex) : vx_Met l y_C_move w_C_move rm_C_move (va_Pc [.ref (a 0), .int x1, .int x2] (kP D sa [(cI, .int), (cZ, .boolean)] (cW a cI cZ places listed front turns fetched placeOf shelfAt isBlocked shelfOf counts isOpen list ring stops fewest isExact shelves stopPlaces taken trial best) sz)) (va_Qi (fun r (u : (Nat → Int32) × (Nat → Int32)) => post r u.1 u.2) (fun (u : (Nat → Int32) × (Nat → Int32)) t => va_P D classes (cW a cI cZ places listed front turns fetched u.1 u.2 isBlocked shelfOf counts isOpen list ring stops fewest isExact shelves stopPlaces taken trial best) t.heap ∧ va_K D classes [(cI, .int), (cZ, .boolean)] t ∧ va_D (va_A (cW a cI cZ places listed front turns fetched placeOf shelfAt isBlocked shelfOf counts isOpen list ring stops fewest isExact shelves stopPlaces taken trial best) sz) (cW a cI cZ places listed front turns fetched u.1 u.2 isBlocked shelfOf counts isOpen list ring stops fewest isExact shelves stopPlaces taken trial best)) (va_A (cW a cI cZ places listed front turns fetched placeOf shelfAt isBlocked shelfOf counts isOpen list ring stops fewest isExact shelves stopPlaces taken trial best) sz)) (vx_X (fun (u : String × (Nat → Int32) × (Nat → Int32)) => pex u.1 u.2.1 u.2.2) (fun E (u : String × (Nat → Int32) × (Nat → Int32)) t => u.1 = E ∧ va_P D classes (cW a cI cZ places listed front turns fetched u.2.1 u.2.2 isBlocked shelfOf counts isOpen list ring stops fewest isExact shelves stopPlaces taken trial best) t.heap ∧ va_K D classes [(cI, .int), (cZ, .boolean)] t ∧ va_D (va_A (cW a cI cZ places listed front turns fetched placeOf shelfAt isBlocked shelfOf counts isOpen list ring stops fewest isExact shelves stopPlaces taken trial best) sz) (cW a cI cZ places listed front turns fetched u.2.1 u.2.2 isBlocked shelfOf counts isOpen list ring stops fewest isExact shelves stopPlaces taken trial best)) (va_A (cW a cI cZ places listed front turns fetched placeOf shelfAt isBlocked shelfOf counts isOpen list ring stops fewest isExact shelves stopPlaces taken trial best) sz)) 4 24 (va_A (cW a cI cZ places listed front turns fetched placeOf shelfAt isBlocked shelfOf counts isOpen list ring stops fewest isExact shelves stopPlaces taken trial best) sz) := by
  refine vx_ofW (cc := b_C_move) (maxL := 5) (ret := (some .int)) (by decide) rfl ?_
  intro p e s m args below meth c s₁ B hml hEx hv
  obtain ⟨rfl, hsz, hP, hK, hD0, hZ⟩ := hv
  have hx := B.exec
  have hb := B.bytes
  have hr := B.returns
  have hts := atoms_spec (ws := w_C_move) B.pre
  have hown : s.vm.findClass R_C = some m.cls := findClass_of_methodNamed B.named
  have hlocks := B.notSynchronized
  subst hsz
  have hD := hD0.self (sz := s.heap.size)
  generalize hAe : (va_A (cW a cI cZ places listed front turns fetched placeOf shelfAt isBlocked shelfOf counts isOpen list ring stops fewest isExact shelves stopPlaces taken trial best) s.heap.size) = A at hD hZ ⊢
  have hA : ∀ q : Nat, s.heap.size ≤ q → A q := fun q h => by rw [← hAe]; exact Or.inr h
  have hS : va_S A s.heap s.heap [] := va_S.rf
  have hl := lv_entry ([.ref (a 0), .int x1, .int x2]) (n := 5) (Nat.le_of_ble_eq_true rfl)
  rw [lg_entry_eq]
  generalize (lg_sl ([.ref (a 0), .int x1, .int x2]) ++ List.replicate (5 - (lg_sl ([.ref (a 0), .int x1, .int x2])).length) Slot.unset).toArray = ls at hl ⊢
  have hl : lv_has ls 5 [(0, .ref (a 0)), (1, .int x1), (2, .int x2)] := hl
  refine lv_aload_n hx hb d_C_move_0 rfl (lv_at hl 0 rfl) ?_
  refine lv_iload_n hx hb d_C_move_1 rfl (lv_at hl 1 rfl) ?_
  have hPc := hP
  have hDc := hD
  have hFc := va_free (wc := cW a cI cZ places listed front turns fetched placeOf shelfAt isBlocked shelfOf counts isOpen list ring stops fewest isExact shelves stopPlaces taken trial best) hD hS hA [0, 1, 2, 3, 4, 5, 6, 7, 8, 9, 10, 11, 12, 13] rfl
  refine vx_callv (vx_runV (As := [.int x1]) (rest := []) ⟨hx, hb, hml, hown, hts⟩ (c_C_needShelf hl9 hw) (cwV 1 hts (gV k_C_needShelf kw_d3d87068 kw_1b9f8d0a kw_d1e1ea5a kw_91859716) rfl rfl rfl (by decide +kernel) ⟨(Nat.le_of_ble_eq_true rfl), (Nat.le_of_ble_eq_true rfl)⟩) ⟨kP.blind, va_recv hK hPc (ci := 0) (q0 := 0) rfl rfl, kP.of hK hPc hDc hZ hS hFc⟩ rfl rfl hl.1 rfl (lv_room (Nat.le_of_ble_eq_true rfl)) d_C_move_2 ⟨(Nat.le_of_ble_eq_true rfl), (Nat.le_of_ble_eq_true rfl)⟩) hS (fun q _ h => hFc q h) hFc (fun q _ h => hFc q h) (fun E9 ce q9 u t H1 locs ht hvm hw hB hz1 hk1 hS hce hcv hcl => ?_) (fun u t H1 locs ht hvm hw hB hz1 hk1 hS => ?_)
  · obtain ⟨E_11, rfl⟩ : ∃ z, z = u := ⟨_, rfl⟩
    obtain ⟨hE9, hP1, hK1, hD1⟩ := hB
    try dsimp only at hw hP1 hD1 hE9
    subst hE9
    rw [ht] at hP1
    have hK1 := va_K.moved hvm.symm hK1
    obtain ⟨hP, hD⟩ := va_join (wr := []) (w1 := cW a cI cZ places listed front turns fetched placeOf shelfAt isBlocked shelfOf counts isOpen list ring stops fewest isExact shelves stopPlaces taken trial best) hP hD [0, 1, 2, 3, 4, 5, 6, 7, 8, 9, 10, 11, 12, 13] [] rfl rfl (by decide) (by decide) hk1 hFc hP1 hD1
    generalize H1 = H at hP hS hce ⊢
    have hP : va_P D classes (cW a cI cZ places listed front turns fetched placeOf shelfAt isBlocked shelfOf counts isOpen list ring stops fewest isExact shelves stopPlaces taken trial best) H := hP
    have hD : va_D A (cW a cI cZ places listed front turns fetched placeOf shelfAt isBlocked shelfOf counts isOpen list ring stops fewest isExact shelves stopPlaces taken trial best) := hD
    exact vx_out (fun x hx => (hEx x hx).elim) hlocks hce hcv hcl (fun t9 h9 ha => ⟨(E_11, placeOf, shelfAt), hw, ⟨rfl, by rw [h9]; exact hP, va_K.moved ha hK, hD⟩, hS.F h9⟩) hS.2.2 (Nat.le_of_ble_eq_true rfl) (Nat.le_of_ble_eq_true rfl)
  · obtain ⟨⟩ := u
    obtain ⟨hP1, hK1, hD1⟩ := hB
    try dsimp only at hw hP1 hD1
    rw [ht] at hP1
    have hK1 := va_K.moved hvm.symm hK1
    obtain ⟨hP, hD⟩ := va_join (wr := []) (w1 := cW a cI cZ places listed front turns fetched placeOf shelfAt isBlocked shelfOf counts isOpen list ring stops fewest isExact shelves stopPlaces taken trial best) hP hD [0, 1, 2, 3, 4, 5, 6, 7, 8, 9, 10, 11, 12, 13] [] rfl rfl (by decide) (by decide) hk1 hFc hP1 hD1
    generalize H1 = H at hP hS ⊢
    have hP : va_P D classes (cW a cI cZ places listed front turns fetched placeOf shelfAt isBlocked shelfOf counts isOpen list ring stops fewest isExact shelves stopPlaces taken trial best) H := hP
    have hD : va_D A (cW a cI cZ places listed front turns fetched placeOf shelfAt isBlocked shelfOf counts isOpen list ring stops fewest isExact shelves stopPlaces taken trial best) := hD
    refine lv_aload_n hx hb d_C_move_5 rfl (lv_at hl 0 rfl) ?_
    refine lv_iload_n hx hb d_C_move_6 rfl (lv_at hl 2 rfl) ?_
    have hPc := hP
    have hDc := hD
    have hFc := va_free (wc := cW a cI cZ places listed front turns fetched placeOf shelfAt isBlocked shelfOf counts isOpen list ring stops fewest isExact shelves stopPlaces taken trial best) hD hS hA [0, 1, 2, 3, 4, 5, 6, 7, 8, 9, 10, 11, 12, 13] rfl
    refine vx_callv (vx_runV (As := [.int x2]) (rest := []) ⟨hx, hb, hml, hown, hts⟩ (c_C_needShelf hl9 hw) (cwV 1 hts (gV k_C_needShelf kw_d3d87068 kw_1b9f8d0a kw_d1e1ea5a kw_91859716) rfl rfl rfl (by decide +kernel) ⟨(Nat.le_of_ble_eq_true rfl), (Nat.le_of_ble_eq_true rfl)⟩) ⟨kP.blind, va_recv hK hPc (ci := 0) (q0 := 0) rfl rfl, kP.of hK hPc hDc hZ hS hFc⟩ rfl rfl hl.1 rfl (lv_room (Nat.le_of_ble_eq_true rfl)) d_C_move_7 ⟨(Nat.le_of_ble_eq_true rfl), (Nat.le_of_ble_eq_true rfl)⟩) hS (fun q _ h => hFc q h) hFc (fun q _ h => hFc q h) (fun E9 ce q9 u t H1 locs ht hvm hw hB hz1 hk1 hS hce hcv hcl => ?_) (fun u t H1 locs ht hvm hw hB hz1 hk1 hS => ?_)
    · obtain ⟨E_10, rfl⟩ : ∃ z, z = u := ⟨_, rfl⟩
      obtain ⟨hE9, hP1, hK1, hD1⟩ := hB
      try dsimp only at hw hP1 hD1 hE9
      subst hE9
      rw [ht] at hP1
      have hK1 := va_K.moved hvm.symm hK1
      obtain ⟨hP, hD⟩ := va_join (wr := []) (w1 := cW a cI cZ places listed front turns fetched placeOf shelfAt isBlocked shelfOf counts isOpen list ring stops fewest isExact shelves stopPlaces taken trial best) hP hD [0, 1, 2, 3, 4, 5, 6, 7, 8, 9, 10, 11, 12, 13] [] rfl rfl (by decide) (by decide) hk1 hFc hP1 hD1
      generalize H1 = H at hP hS hce ⊢
      have hP : va_P D classes (cW a cI cZ places listed front turns fetched placeOf shelfAt isBlocked shelfOf counts isOpen list ring stops fewest isExact shelves stopPlaces taken trial best) H := hP
      have hD : va_D A (cW a cI cZ places listed front turns fetched placeOf shelfAt isBlocked shelfOf counts isOpen list ring stops fewest isExact shelves stopPlaces taken trial best) := hD
      exact vx_out (fun x hx => (hEx x hx).elim) hlocks hce hcv hcl (fun t9 h9 ha => ⟨(E_10, placeOf, shelfAt), hw, ⟨rfl, by rw [h9]; exact hP, va_K.moved ha hK, hD⟩, hS.F h9⟩) hS.2.2 (Nat.le_of_ble_eq_true rfl) (Nat.le_of_ble_eq_true rfl)
    · obtain ⟨⟩ := u
      obtain ⟨hP1, hK1, hD1⟩ := hB
      try dsimp only at hw hP1 hD1
      rw [ht] at hP1
      have hK1 := va_K.moved hvm.symm hK1
      obtain ⟨hP, hD⟩ := va_join (wr := []) (w1 := cW a cI cZ places listed front turns fetched placeOf shelfAt isBlocked shelfOf counts isOpen list ring stops fewest isExact shelves stopPlaces taken trial best) hP hD [0, 1, 2, 3, 4, 5, 6, 7, 8, 9, 10, 11, 12, 13] [] rfl rfl (by decide) (by decide) hk1 hFc hP1 hD1
      generalize H1 = H at hP hS ⊢
      have hP : va_P D classes (cW a cI cZ places listed front turns fetched placeOf shelfAt isBlocked shelfOf counts isOpen list ring stops fewest isExact shelves stopPlaces taken trial best) H := hP
      have hD : va_D A (cW a cI cZ places listed front turns fetched placeOf shelfAt isBlocked shelfOf counts isOpen list ring stops fewest isExact shelves stopPlaces taken trial best) := hD
      refine lv_aload_n hx hb d_C_move_10 rfl (lv_at hl 0 rfl) ?_
      have hPc := hP
      have hDc := hD
      have hFc := va_free (wc := cW a cI cZ places listed front turns fetched placeOf shelfAt isBlocked shelfOf counts isOpen list ring stops fewest isExact shelves stopPlaces taken trial best) hD hS hA [0, 1, 2, 3, 4, 5, 6, 7, 8, 9, 10, 11, 12, 13] rfl
      refine vx_callv (vx_runV (As := []) (rest := []) ⟨hx, hb, hml, hown, hts⟩ (c_C_needClosedDoors hl9 hw) (cwV 0 hts (gV k_C_needClosedDoors kw_728395d1 kw_cd61010c kw_e9b58933 kw_91859716) rfl rfl rfl (by decide +kernel) ⟨(Nat.le_of_ble_eq_true rfl), (Nat.le_of_ble_eq_true rfl)⟩) ⟨kP.blind, va_recv hK hPc (ci := 0) (q0 := 0) rfl rfl, kP.of hK hPc hDc hZ hS hFc⟩ rfl rfl hl.1 rfl (lv_room (Nat.le_of_ble_eq_true rfl)) d_C_move_11 ⟨(Nat.le_of_ble_eq_true rfl), (Nat.le_of_ble_eq_true rfl)⟩) hS (fun q _ h => hFc q h) hFc (fun q _ h => hFc q h) (fun E9 ce q9 u t H1 locs ht hvm hw hB hz1 hk1 hS hce hcv hcl => ?_) (fun u t H1 locs ht hvm hw hB hz1 hk1 hS => ?_)
      · obtain ⟨E_9, rfl⟩ : ∃ z, z = u := ⟨_, rfl⟩
        obtain ⟨hE9, hP1, hK1, hD1⟩ := hB
        try dsimp only at hw hP1 hD1 hE9
        subst hE9
        rw [ht] at hP1
        have hK1 := va_K.moved hvm.symm hK1
        obtain ⟨hP, hD⟩ := va_join (wr := []) (w1 := cW a cI cZ places listed front turns fetched placeOf shelfAt isBlocked shelfOf counts isOpen list ring stops fewest isExact shelves stopPlaces taken trial best) hP hD [0, 1, 2, 3, 4, 5, 6, 7, 8, 9, 10, 11, 12, 13] [] rfl rfl (by decide) (by decide) hk1 hFc hP1 hD1
        generalize H1 = H at hP hS hce ⊢
        have hP : va_P D classes (cW a cI cZ places listed front turns fetched placeOf shelfAt isBlocked shelfOf counts isOpen list ring stops fewest isExact shelves stopPlaces taken trial best) H := hP
        have hD : va_D A (cW a cI cZ places listed front turns fetched placeOf shelfAt isBlocked shelfOf counts isOpen list ring stops fewest isExact shelves stopPlaces taken trial best) := hD
        exact vx_out (fun x hx => (hEx x hx).elim) hlocks hce hcv hcl (fun t9 h9 ha => ⟨(E_9, placeOf, shelfAt), hw, ⟨rfl, by rw [h9]; exact hP, va_K.moved ha hK, hD⟩, hS.F h9⟩) hS.2.2 (Nat.le_of_ble_eq_true rfl) (Nat.le_of_ble_eq_true rfl)
      · obtain ⟨⟩ := u
        obtain ⟨hP1, hK1, hD1⟩ := hB
        try dsimp only at hw hP1 hD1
        rw [ht] at hP1
        have hK1 := va_K.moved hvm.symm hK1
        obtain ⟨hP, hD⟩ := va_join (wr := []) (w1 := cW a cI cZ places listed front turns fetched placeOf shelfAt isBlocked shelfOf counts isOpen list ring stops fewest isExact shelves stopPlaces taken trial best) hP hD [0, 1, 2, 3, 4, 5, 6, 7, 8, 9, 10, 11, 12, 13] [] rfl rfl (by decide) (by decide) hk1 hFc hP1 hD1
        generalize H1 = H at hP hS ⊢
        have hP : va_P D classes (cW a cI cZ places listed front turns fetched placeOf shelfAt isBlocked shelfOf counts isOpen list ring stops fewest isExact shelves stopPlaces taken trial best) H := hP
        have hD : va_D A (cW a cI cZ places listed front turns fetched placeOf shelfAt isBlocked shelfOf counts isOpen list ring stops fewest isExact shelves stopPlaces taken trial best) := hD
        refine lv_iload_n hx hb d_C_move_14 rfl (lv_at hl 1 rfl) ?_
        refine lv_iload_n hx hb d_C_move_15 rfl (lv_at hl 2 rfl) ?_
        refine lv_icmp_ne (tgt := 29) hx hb d_C_move_16 (by decide) (fun c_1 => ?_) (fun c_1 => ?_)
        · have hw := hw.1 c_1
          refine lv_aload_n hx hb d_C_move_29 rfl (lv_at hl 0 rfl) ?_
          refine va_get (D := D) (ci := 0) (v := .ref (a 1)) (C := R_C) (T := F_C) (N := 13) hx hb hts (iK iW_C) hown hK hP 0 rfl rfl 1 (by decide) (hts _ (kM kw_47d73e1c)) (fun _ h9 => h9) rfl d_C_move_30 ?_
          refine lv_iload_n hx hb d_C_move_33 rfl (lv_at hl 1 rfl) ?_
          obtain ⟨h_2, hw⟩ := hw
          refine va_iald hx hb hK hP 1 0 rfl rfl h_2 d_C_move_34 ?_
          refine lv_istore_n (lv' := [(3, .int (placeOf (x1).toNatClampNeg)), (0, .ref (a 0)), (1, .int x1), (2, .int x2)]) hx hb d_C_move_35 rfl hl (by decide) rfl (fun ls hl => ?_)
          refine lv_aload_n hx hb d_C_move_36 rfl (lv_at hl 1 rfl) ?_
          refine va_get (D := D) (ci := 0) (v := .ref (a 1)) (C := R_C) (T := F_C) (N := 13) hx hb hts (iK iW_C) hown hK hP 0 rfl rfl 1 (by decide) (hts _ (kM kw_47d73e1c)) (fun _ h9 => h9) rfl d_C_move_37 ?_
          refine lv_iload_n hx hb d_C_move_40 rfl (lv_at hl 3 rfl) ?_
          obtain ⟨h_3, hw⟩ := hw
          refine va_iald hx hb hK hP 1 0 rfl rfl h_3 d_C_move_41 ?_
          refine lv_istore (lv' := [(4, .int (placeOf (x2).toNatClampNeg)), (3, .int (placeOf (x1).toNatClampNeg)), (0, .ref (a 0)), (1, .int x1), (2, .int x2)]) hx hb d_C_move_42 hl (by decide) rfl (fun ls hl => ?_)
          refine lv_aload_n hx hb d_C_move_44 rfl (lv_at hl 2 rfl) ?_
          refine lv_iload_n hx hb d_C_move_45 rfl (lv_at hl 3 rfl) ?_
          refine lv_iload hx hb d_C_move_46 (lv_at hl 0 rfl) ?_
          have hPc := hP
          have hDc := hD
          have hFc := va_free (wc := cW a cI cZ places listed front turns fetched placeOf shelfAt isBlocked shelfOf counts isOpen list ring stops fewest isExact shelves stopPlaces taken trial best) hD hS hA [0, 1, 2, 3, 4, 5, 6, 7, 8, 9, 10, 11, 12, 13] rfl
          refine va_callv (va_runV (As := [.int x1, .int (placeOf (x2).toNatClampNeg)]) (rest := []) ⟨hx, hb, hml, hown, hts⟩ (c_C_setPlace hw) (cwV 2 hts (gV k_C_setPlace kw_7675e259 kw_39a44ad9 kw_289dfdb9 kw_91859716) rfl rfl rfl (by decide +kernel) ⟨(Nat.le_of_ble_eq_true rfl), (Nat.le_of_ble_eq_true rfl)⟩) ⟨kP.blind, va_recv hK hPc (ci := 0) (q0 := 0) rfl rfl, kP.of hK hPc hDc hZ hS hFc⟩ rfl rfl hl.1 rfl (lv_room (Nat.le_of_ble_eq_true rfl)) d_C_move_48 ⟨(Nat.le_of_ble_eq_true rfl), (Nat.le_of_ble_eq_true rfl)⟩) hS (fun q _ h => hFc q h) hFc (fun u t H1 locs ht hvm hw hB hz1 hk1 hS => ?_)
          obtain ⟨placeOf_4, shelfAt_5⟩ := u
          obtain ⟨hP1, hK1, hD1⟩ := hB
          try dsimp only at hw hP1 hD1
          rw [ht] at hP1
          have hK1 := va_K.moved hvm.symm hK1
          obtain ⟨hP, hD⟩ := va_join (wr := []) (w1 := cW a cI cZ places listed front turns fetched placeOf_4 shelfAt_5 isBlocked shelfOf counts isOpen list ring stops fewest isExact shelves stopPlaces taken trial best) hP hD [0, 1, 2, 3, 4, 5, 6, 7, 8, 9, 10, 11, 12, 13] [] rfl rfl (by decide) (by decide) hk1 hFc hP1 hD1
          generalize H1 = H at hP hS ⊢
          have hP : va_P D classes (cW a cI cZ places listed front turns fetched placeOf_4 shelfAt_5 isBlocked shelfOf counts isOpen list ring stops fewest isExact shelves stopPlaces taken trial best) H := hP
          have hD : va_D A (cW a cI cZ places listed front turns fetched placeOf_4 shelfAt_5 isBlocked shelfOf counts isOpen list ring stops fewest isExact shelves stopPlaces taken trial best) := hD
          refine lv_aload_n hx hb d_C_move_51 rfl (lv_at hl 2 rfl) ?_
          refine lv_iload_n hx hb d_C_move_52 rfl (lv_at hl 4 rfl) ?_
          refine lv_iload_n hx hb d_C_move_53 rfl (lv_at hl 1 rfl) ?_
          have hPc := hP
          have hDc := hD
          have hFc := va_free (wc := cW a cI cZ places listed front turns fetched placeOf_4 shelfAt_5 isBlocked shelfOf counts isOpen list ring stops fewest isExact shelves stopPlaces taken trial best) hD hS hA [0, 1, 2, 3, 4, 5, 6, 7, 8, 9, 10, 11, 12, 13] rfl
          refine va_callv (va_runV (As := [.int x2, .int (placeOf (x1).toNatClampNeg)]) (rest := []) ⟨hx, hb, hml, hown, hts⟩ (c_C_setPlace hw) (cwV 2 hts (gV k_C_setPlace kw_7675e259 kw_39a44ad9 kw_289dfdb9 kw_91859716) rfl rfl rfl (by decide +kernel) ⟨(Nat.le_of_ble_eq_true rfl), (Nat.le_of_ble_eq_true rfl)⟩) ⟨kP.blind, va_recv hK hPc (ci := 0) (q0 := 0) rfl rfl, kP.of hK hPc hDc hZ hS hFc⟩ rfl rfl hl.1 rfl (lv_room (Nat.le_of_ble_eq_true rfl)) d_C_move_54 ⟨(Nat.le_of_ble_eq_true rfl), (Nat.le_of_ble_eq_true rfl)⟩) hS (fun q _ h => hFc q h) hFc (fun u t H1 locs ht hvm hw hB hz1 hk1 hS => ?_)
          obtain ⟨placeOf_6, shelfAt_7⟩ := u
          obtain ⟨hP1, hK1, hD1⟩ := hB
          try dsimp only at hw hP1 hD1
          rw [ht] at hP1
          have hK1 := va_K.moved hvm.symm hK1
          obtain ⟨hP, hD⟩ := va_join (wr := []) (w1 := cW a cI cZ places listed front turns fetched placeOf_6 shelfAt_7 isBlocked shelfOf counts isOpen list ring stops fewest isExact shelves stopPlaces taken trial best) hP hD [0, 1, 2, 3, 4, 5, 6, 7, 8, 9, 10, 11, 12, 13] [] rfl rfl (by decide) (by decide) hk1 hFc hP1 hD1
          generalize H1 = H at hP hS ⊢
          have hP : va_P D classes (cW a cI cZ places listed front turns fetched placeOf_6 shelfAt_7 isBlocked shelfOf counts isOpen list ring stops fewest isExact shelves stopPlaces taken trial best) H := hP
          have hD : va_D A (cW a cI cZ places listed front turns fetched placeOf_6 shelfAt_7 isBlocked shelfOf counts isOpen list ring stops fewest isExact shelves stopPlaces taken trial best) := hD
          refine lv_iload_n hx hb d_C_move_57 rfl (lv_at hl 1 rfl) ?_
          refine lv_iload hx hb d_C_move_58 (lv_at hl 0 rfl) ?_
          refine lv_aload_n hx hb d_C_move_60 rfl (lv_at hl 2 rfl) ?_
          refine va_get (D := D) (ci := 0) (v := .int places) (C := R_C) (T := F_C) (N := 13) hx hb hts (iK iW_C) hown hK hP 0 rfl rfl 0 (by decide) (hts _ (kM kw_e5f6e787)) (fun _ h9 => h9) rfl d_C_move_61 ?_
          have hPc := hP.sub (ws' := []) [] rfl
          have hDc := hD.sub (ws' := []) [] (by decide) rfl
          have hFc := va_free (wc := []) hD hS hA [] rfl
          refine vp_callSi (W.runS (As := [.int (placeOf (x1).toNatClampNeg), .int (placeOf (x2).toNatClampNeg), .int places]) (rest := []) ⟨hx, hb, hml, hown, hts⟩ (c_C_distance hw) (cwS 3 hts (gS k_C_distance kw_0b661e38 kw_f26d23c4 kw_91859716) rfl rfl rfl (by decide +kernel) ⟨(Nat.le_of_ble_eq_true rfl), (Nat.le_of_ble_eq_true rfl)⟩) ⟨kP.blind, kP.of hK hPc hDc hZ hS hFc⟩ rfl rfl hl.1 rfl (lv_room (Nat.le_of_ble_eq_true rfl)) d_C_move_64 ⟨(Nat.le_of_ble_eq_true rfl), (Nat.le_of_ble_eq_true rfl)⟩) (fun r_8 hw => ?_)
          refine W.widen (k := 4) (n := 24) (Nat.le_of_ble_eq_true rfl) (Nat.le_of_ble_eq_true rfl) ?_
          refine vx_ret ?_
          exact W.iret (v := r_8) hx hb hr (fun t ht hW => ⟨⟨r_8, (placeOf_6, shelfAt_7), rfl, hw, by rw [ht]; exact hP, va_K.moved hW.alike hK, hD⟩, hS.F ht⟩) hS.2.2 d_C_move_67
        · have hw := hw.2 c_1
          exact vx_throwS (own := R_C) (cls := "java/lang/IllegalStateException") (names := exN) hx hb hl9 hown (by decide +kernel) (by decide +kernel) (hts _ (kM kw_fc879798)) (hts _ (kM kw_f529d838)) (hZ.s 15 rfl) (ta_C_IllegalStateException (fun w h => hts w (kM h)) hZ) tg_C_IllegalStateException hZ.u hZ.n hS (hl.1.trans hml.symm) d_C_move_19 d_C_move_22 d_C_move_23 d_C_move_25 d_C_move_28 (fun x hx => (hEx x hx).elim) (Nat.le_of_ble_eq_true rfl) (Nat.le_of_ble_eq_true rfl) (Nat.le_of_ble_eq_true rfl) (Nat.le_of_ble_eq_true rfl) hlocks (fun t ha hsz hk => ⟨("java/lang/IllegalStateException", placeOf, shelfAt), hw, ⟨rfl, hP.kept (fun k q hq => hk q.1 (hP k q hq).lt), va_K.moved ha hK, hD⟩, Nat.le_trans hS.1 hsz, fun q h1 h2 => (hk q (Nat.lt_of_lt_of_le h1 hS.1)).trans (hS.2.1 q h1 h2)⟩) hS.2.2 (Nat.le_of_ble_eq_true rfl) (Nat.le_of_ble_eq_true rfl)
def p_C_blocked (x1 : Int32) (x2 : Int32) (places : Int32) (isBlocked : Nat → Int32) (post : Int32 → (Nat → Int32) → Prop) (pex : String → (Nat → Int32) → Prop) : Prop := (p_C_needShelf x1 places ((vp_in x1 24 ∧ (vp_in x1 24 ∧ (narrow .boolean (.int (isBlocked (x1).toNatClampNeg)) = .int (isBlocked (x1).toNatClampNeg) ∧ post (isBlocked (x1).toNatClampNeg) (upd isBlocked (x1).toNatClampNeg (vp_nar .boolean x2)))))) (fun E_4 => pex E_4 isBlocked))
abbrev rm_C_blocked : Room := { frames := 7, cells := 1, slots := 6, locals := 121 }
set_option maxHeartbeats 4000000 in
set_option maxRecDepth 100000 in
theorem c_C_blocked {l : Launch} (hl9 : l.stackTraces = false) {D : va_G} {sa : Nat → Nat} {cI cZ : ClassId} {sz : Nat} {a : Nat → Nat} {places : Int32} {listed : Int32} {front : Int32} {turns : Int32} {fetched : Int32} {placeOf : Nat → Int32} {shelfAt : Nat → Int32} {isBlocked : Nat → Int32} {shelfOf : Nat → Int32} {counts : Nat → Int32} {isOpen : Nat → Int32} {list : Nat → Int32} {ring : Int32} {stops : Int32} {fewest : Int32} {isExact : Int32} {shelves : Nat → Int32} {stopPlaces : Nat → Int32} {taken : Nat → Int32} {trial : Nat → Int32} {best : Nat → Int32} {x1 : Int32} {x2 : Int32} {post : Int32 → (Nat → Int32) → Prop} {pex : String → (Nat → Int32) → Prop} (hw : p_C_blocked x1 x2 places isBlocked post pex) : vx_Met l y_C_blocked w_C_blocked rm_C_blocked (va_Pc [.ref (a 0), .int x1, .int x2] (kP D sa [(cI, .int), (cZ, .boolean)] (cW a cI cZ places listed front turns fetched placeOf shelfAt isBlocked shelfOf counts isOpen list ring stops fewest isExact shelves stopPlaces taken trial best) sz)) (va_Qi (fun r (u : (Nat → Int32)) => post r u) (fun (u : (Nat → Int32)) t => va_P D classes (cW a cI cZ places listed front turns fetched placeOf shelfAt u shelfOf counts isOpen list ring stops fewest isExact shelves stopPlaces taken trial best) t.heap ∧ va_K D classes [(cI, .int), (cZ, .boolean)] t ∧ va_D (va_A (cW a cI cZ places listed front turns fetched placeOf shelfAt isBlocked shelfOf counts isOpen list ring stops fewest isExact shelves stopPlaces taken trial best) sz) (cW a cI cZ places listed front turns fetched placeOf shelfAt u shelfOf counts isOpen list ring stops fewest isExact shelves stopPlaces taken trial best)) (va_A (cW a cI cZ places listed front turns fetched placeOf shelfAt isBlocked shelfOf counts isOpen list ring stops fewest isExact shelves stopPlaces taken trial best) sz)) (vx_X (fun (u : String × (Nat → Int32)) => pex u.1 u.2) (fun E (u : String × (Nat → Int32)) t => u.1 = E ∧ va_P D classes (cW a cI cZ places listed front turns fetched placeOf shelfAt u.2 shelfOf counts isOpen list ring stops fewest isExact shelves stopPlaces taken trial best) t.heap ∧ va_K D classes [(cI, .int), (cZ, .boolean)] t ∧ va_D (va_A (cW a cI cZ places listed front turns fetched placeOf shelfAt isBlocked shelfOf counts isOpen list ring stops fewest isExact shelves stopPlaces taken trial best) sz) (cW a cI cZ places listed front turns fetched placeOf shelfAt u.2 shelfOf counts isOpen list ring stops fewest isExact shelves stopPlaces taken trial best)) (va_A (cW a cI cZ places listed front turns fetched placeOf shelfAt isBlocked shelfOf counts isOpen list ring stops fewest isExact shelves stopPlaces taken trial best) sz)) 1 6 (va_A (cW a cI cZ places listed front turns fetched placeOf shelfAt isBlocked shelfOf counts isOpen list ring stops fewest isExact shelves stopPlaces taken trial best) sz) := by
  refine vx_ofW (cc := b_C_blocked) (maxL := 4) (ret := (some .boolean)) (by decide) rfl ?_
  intro p e s m args below meth c s₁ B hml hEx hv
  obtain ⟨rfl, hsz, hP, hK, hD0, hZ⟩ := hv
  have hx := B.exec
  have hb := B.bytes
  have hr := B.returns
  have hts := atoms_spec (ws := w_C_blocked) B.pre
  have hown : s.vm.findClass R_C = some m.cls := findClass_of_methodNamed B.named
  have hlocks := B.notSynchronized
  subst hsz
  have hD := hD0.self (sz := s.heap.size)
  generalize hAe : (va_A (cW a cI cZ places listed front turns fetched placeOf shelfAt isBlocked shelfOf counts isOpen list ring stops fewest isExact shelves stopPlaces taken trial best) s.heap.size) = A at hD hZ ⊢
  have hA : ∀ q : Nat, s.heap.size ≤ q → A q := fun q h => by rw [← hAe]; exact Or.inr h
  have hS : va_S A s.heap s.heap [] := va_S.rf
  have hl := lv_entry ([.ref (a 0), .int x1, .int x2]) (n := 4) (Nat.le_of_ble_eq_true rfl)
  rw [lg_entry_eq]
  generalize (lg_sl ([.ref (a 0), .int x1, .int x2]) ++ List.replicate (4 - (lg_sl ([.ref (a 0), .int x1, .int x2])).length) Slot.unset).toArray = ls at hl ⊢
  have hl : lv_has ls 4 [(0, .ref (a 0)), (1, .int x1), (2, .int x2)] := hl
  refine lv_aload_n hx hb d_C_blocked_0 rfl (lv_at hl 0 rfl) ?_
  refine lv_iload_n hx hb d_C_blocked_1 rfl (lv_at hl 1 rfl) ?_
  have hPc := hP
  have hDc := hD
  have hFc := va_free (wc := cW a cI cZ places listed front turns fetched placeOf shelfAt isBlocked shelfOf counts isOpen list ring stops fewest isExact shelves stopPlaces taken trial best) hD hS hA [0, 1, 2, 3, 4, 5, 6, 7, 8, 9, 10, 11, 12, 13] rfl
  refine vx_callv (vx_runV (As := [.int x1]) (rest := []) ⟨hx, hb, hml, hown, hts⟩ (c_C_needShelf hl9 hw) (cwV 1 hts (gV k_C_needShelf kw_d3d87068 kw_1b9f8d0a kw_d1e1ea5a kw_91859716) rfl rfl rfl (by decide +kernel) ⟨(Nat.le_of_ble_eq_true rfl), (Nat.le_of_ble_eq_true rfl)⟩) ⟨kP.blind, va_recv hK hPc (ci := 0) (q0 := 0) rfl rfl, kP.of hK hPc hDc hZ hS hFc⟩ rfl rfl hl.1 rfl (lv_room (Nat.le_of_ble_eq_true rfl)) d_C_blocked_2 ⟨(Nat.le_of_ble_eq_true rfl), (Nat.le_of_ble_eq_true rfl)⟩) hS (fun q _ h => hFc q h) hFc (fun q _ h => hFc q h) (fun E9 ce q9 u t H1 locs ht hvm hw hB hz1 hk1 hS hce hcv hcl => ?_) (fun u t H1 locs ht hvm hw hB hz1 hk1 hS => ?_)
  · obtain ⟨E_4, rfl⟩ : ∃ z, z = u := ⟨_, rfl⟩
    obtain ⟨hE9, hP1, hK1, hD1⟩ := hB
    try dsimp only at hw hP1 hD1 hE9
    subst hE9
    rw [ht] at hP1
    have hK1 := va_K.moved hvm.symm hK1
    obtain ⟨hP, hD⟩ := va_join (wr := []) (w1 := cW a cI cZ places listed front turns fetched placeOf shelfAt isBlocked shelfOf counts isOpen list ring stops fewest isExact shelves stopPlaces taken trial best) hP hD [0, 1, 2, 3, 4, 5, 6, 7, 8, 9, 10, 11, 12, 13] [] rfl rfl (by decide) (by decide) hk1 hFc hP1 hD1
    generalize H1 = H at hP hS hce ⊢
    have hP : va_P D classes (cW a cI cZ places listed front turns fetched placeOf shelfAt isBlocked shelfOf counts isOpen list ring stops fewest isExact shelves stopPlaces taken trial best) H := hP
    have hD : va_D A (cW a cI cZ places listed front turns fetched placeOf shelfAt isBlocked shelfOf counts isOpen list ring stops fewest isExact shelves stopPlaces taken trial best) := hD
    exact vx_out (fun x hx => (hEx x hx).elim) hlocks hce hcv hcl (fun t9 h9 ha => ⟨(E_4, isBlocked), hw, ⟨rfl, by rw [h9]; exact hP, va_K.moved ha hK, hD⟩, hS.F h9⟩) hS.2.2 (Nat.le_of_ble_eq_true rfl) (Nat.le_of_ble_eq_true rfl)
  · obtain ⟨⟩ := u
    obtain ⟨hP1, hK1, hD1⟩ := hB
    try dsimp only at hw hP1 hD1
    rw [ht] at hP1
    have hK1 := va_K.moved hvm.symm hK1
    obtain ⟨hP, hD⟩ := va_join (wr := []) (w1 := cW a cI cZ places listed front turns fetched placeOf shelfAt isBlocked shelfOf counts isOpen list ring stops fewest isExact shelves stopPlaces taken trial best) hP hD [0, 1, 2, 3, 4, 5, 6, 7, 8, 9, 10, 11, 12, 13] [] rfl rfl (by decide) (by decide) hk1 hFc hP1 hD1
    generalize H1 = H at hP hS ⊢
    have hP : va_P D classes (cW a cI cZ places listed front turns fetched placeOf shelfAt isBlocked shelfOf counts isOpen list ring stops fewest isExact shelves stopPlaces taken trial best) H := hP
    have hD : va_D A (cW a cI cZ places listed front turns fetched placeOf shelfAt isBlocked shelfOf counts isOpen list ring stops fewest isExact shelves stopPlaces taken trial best) := hD
    refine lv_aload_n hx hb d_C_blocked_5 rfl (lv_at hl 0 rfl) ?_
    refine va_get (D := D) (ci := 0) (v := .ref (a 3)) (C := R_C) (T := F_C) (N := 13) hx hb hts (iK iW_C) hown hK hP 0 rfl rfl 3 (by decide) (hts _ (kM kw_932815e5)) (fun _ h9 => h9) rfl d_C_blocked_6 ?_
    refine lv_iload_n hx hb d_C_blocked_9 rfl (lv_at hl 1 rfl) ?_
    obtain ⟨h_1, hw⟩ := hw
    refine va_zald hx hb hK hP 3 1 rfl rfl h_1 d_C_blocked_10 ?_
    refine lv_istore_n (lv' := [(3, .int (isBlocked (x1).toNatClampNeg)), (0, .ref (a 0)), (1, .int x1), (2, .int x2)]) hx hb d_C_blocked_11 rfl hl (by decide) rfl (fun ls hl => ?_)
    refine lv_aload_n hx hb d_C_blocked_12 rfl (lv_at hl 1 rfl) ?_
    refine va_get (D := D) (ci := 0) (v := .ref (a 3)) (C := R_C) (T := F_C) (N := 13) hx hb hts (iK iW_C) hown hK hP 0 rfl rfl 3 (by decide) (hts _ (kM kw_932815e5)) (fun _ h9 => h9) rfl d_C_blocked_13 ?_
    refine lv_iload_n hx hb d_C_blocked_16 rfl (lv_at hl 2 rfl) ?_
    refine lv_iload_n hx hb d_C_blocked_17 rfl (lv_at hl 3 rfl) ?_
    obtain ⟨h_2, hw⟩ := hw
    refine va_zast hx hb hK hP hD hS 3 1 rfl rfl h_2 d_C_blocked_18 (fun H locs hP hD hS => ?_)
    have hP : va_P D classes (cW a cI cZ places listed front turns fetched placeOf shelfAt (upd isBlocked (x1).toNatClampNeg (vp_nar .boolean x2)) shelfOf counts isOpen list ring stops fewest isExact shelves stopPlaces taken trial best) H := hP
    have hD : va_D A (cW a cI cZ places listed front turns fetched placeOf shelfAt (upd isBlocked (x1).toNatClampNeg (vp_nar .boolean x2)) shelfOf counts isOpen list ring stops fewest isExact shelves stopPlaces taken trial best) := hD
    refine lv_iload_n hx hb d_C_blocked_19 rfl (lv_at hl 0 rfl) ?_
    obtain ⟨h_3, hw⟩ := hw
    refine vx_ret ?_
    exact W.zret (v := (isBlocked (x1).toNatClampNeg)) (ty := .boolean) hx hb hr h_3 (fun t ht hW => ⟨⟨(isBlocked (x1).toNatClampNeg), (upd isBlocked (x1).toNatClampNeg (vp_nar .boolean x2)), rfl, hw, by rw [ht]; exact hP, va_K.moved hW.alike hK, hD⟩, hS.F ht⟩) hS.2.2 d_C_blocked_20
def p_C_days_L22_B (v1 : Int32) (K_22 : Int32 → (Nat → Int32) → Prop) (rec_22 : Int32 → (Nat → Int32) → Prop) (x2_22 : Int32) (counts_22 : Nat → Int32) : Prop := (((20 : Int32) ≤ x2_22 → K_22 x2_22 counts_22) ∧ (¬ (20 : Int32) ≤ x2_22 → (vp_in x2_22 20 ∧ (vp_in x2_22 20 ∧ rec_22 (x2_22 + 1) (upd counts_22 (x2_22).toNatClampNeg ((counts_22 (x2_22).toNatClampNeg) >>> (v1 &&& 31)))))))
def p_C_days_L22 (v1 : Int32) (K_22 : Int32 → (Nat → Int32) → Prop) : Nat → Int32 → (Nat → Int32) → Prop
  | 0 => fun _ _ => False
  | n + 1 => p_C_days_L22_B v1 K_22 (p_C_days_L22 v1 K_22 n)
def p_C_days (x1 : Int32) (counts : Nat → Int32) (post : (Nat → Int32) → Prop) (pex : String → (Nat → Int32) → Prop) : Prop := ((x1 < 0 → pex "java/lang/IllegalArgumentException" counts) ∧ (¬ x1 < 0 → ((x1 ≤ (30 : Int32) → (∃ n, p_C_days_L22 x1 (fun (k_11 : Int32) (k_12 : Nat → Int32) => post k_12) n (0 : Int32) counts)) ∧ (¬ x1 ≤ (30 : Int32) → pex "java/lang/IllegalArgumentException" counts))))
abbrev rm_C_days : Room := { frames := 6, cells := 1, slots := 6, locals := 100 }
set_option maxHeartbeats 4000000 in
set_option maxRecDepth 100000 in
theorem c_C_days {l : Launch} (hl9 : l.stackTraces = false) {D : va_G} {sa : Nat → Nat} {cI cZ : ClassId} {sz : Nat} {a : Nat → Nat} {places : Int32} {listed : Int32} {front : Int32} {turns : Int32} {fetched : Int32} {placeOf : Nat → Int32} {shelfAt : Nat → Int32} {isBlocked : Nat → Int32} {shelfOf : Nat → Int32} {counts : Nat → Int32} {isOpen : Nat → Int32} {list : Nat → Int32} {ring : Int32} {stops : Int32} {fewest : Int32} {isExact : Int32} {shelves : Nat → Int32} {stopPlaces : Nat → Int32} {taken : Nat → Int32} {trial : Nat → Int32} {best : Nat → Int32} {x1 : Int32} {post : (Nat → Int32) → Prop} {pex : String → (Nat → Int32) → Prop} (hw : p_C_days x1 counts post pex) : vx_Met l y_C_days w_C_days rm_C_days (va_Pc [.ref (a 0), .int x1] (kP D sa [(cI, .int), (cZ, .boolean)] (cW a cI cZ places listed front turns fetched placeOf shelfAt isBlocked shelfOf counts isOpen list ring stops fewest isExact shelves stopPlaces taken trial best) sz)) (va_Qv (fun (u : (Nat → Int32)) => post u) (fun (u : (Nat → Int32)) t => va_P D classes (cW a cI cZ places listed front turns fetched placeOf shelfAt isBlocked shelfOf u isOpen list ring stops fewest isExact shelves stopPlaces taken trial best) t.heap ∧ va_K D classes [(cI, .int), (cZ, .boolean)] t ∧ va_D (va_A (cW a cI cZ places listed front turns fetched placeOf shelfAt isBlocked shelfOf counts isOpen list ring stops fewest isExact shelves stopPlaces taken trial best) sz) (cW a cI cZ places listed front turns fetched placeOf shelfAt isBlocked shelfOf u isOpen list ring stops fewest isExact shelves stopPlaces taken trial best)) (va_A (cW a cI cZ places listed front turns fetched placeOf shelfAt isBlocked shelfOf counts isOpen list ring stops fewest isExact shelves stopPlaces taken trial best) sz)) (vx_X (fun (u : String × (Nat → Int32)) => pex u.1 u.2) (fun E (u : String × (Nat → Int32)) t => u.1 = E ∧ va_P D classes (cW a cI cZ places listed front turns fetched placeOf shelfAt isBlocked shelfOf u.2 isOpen list ring stops fewest isExact shelves stopPlaces taken trial best) t.heap ∧ va_K D classes [(cI, .int), (cZ, .boolean)] t ∧ va_D (va_A (cW a cI cZ places listed front turns fetched placeOf shelfAt isBlocked shelfOf counts isOpen list ring stops fewest isExact shelves stopPlaces taken trial best) sz) (cW a cI cZ places listed front turns fetched placeOf shelfAt isBlocked shelfOf u.2 isOpen list ring stops fewest isExact shelves stopPlaces taken trial best)) (va_A (cW a cI cZ places listed front turns fetched placeOf shelfAt isBlocked shelfOf counts isOpen list ring stops fewest isExact shelves stopPlaces taken trial best) sz)) 1 6 (va_A (cW a cI cZ places listed front turns fetched placeOf shelfAt isBlocked shelfOf counts isOpen list ring stops fewest isExact shelves stopPlaces taken trial best) sz) := by
  refine vx_ofW (cc := b_C_days) (maxL := 3) (ret := none) (by decide) rfl ?_
  intro p e s m args below meth c s₁ B hml hEx hv
  obtain ⟨rfl, hsz, hP, hK, hD0, hZ⟩ := hv
  have hx := B.exec
  have hb := B.bytes
  have hr := B.returns
  have hts := atoms_spec (ws := w_C_days) B.pre
  have hown : s.vm.findClass R_C = some m.cls := findClass_of_methodNamed B.named
  have hlocks := B.notSynchronized
  subst hsz
  have hD := hD0.self (sz := s.heap.size)
  generalize hAe : (va_A (cW a cI cZ places listed front turns fetched placeOf shelfAt isBlocked shelfOf counts isOpen list ring stops fewest isExact shelves stopPlaces taken trial best) s.heap.size) = A at hD hZ ⊢
  have hA : ∀ q : Nat, s.heap.size ≤ q → A q := fun q h => by rw [← hAe]; exact Or.inr h
  have hS : va_S A s.heap s.heap [] := va_S.rf
  have hl := lv_entry ([.ref (a 0), .int x1]) (n := 3) (Nat.le_of_ble_eq_true rfl)
  rw [lg_entry_eq]
  generalize (lg_sl ([.ref (a 0), .int x1]) ++ List.replicate (3 - (lg_sl ([.ref (a 0), .int x1])).length) Slot.unset).toArray = ls at hl ⊢
  have hl : lv_has ls 3 [(0, .ref (a 0)), (1, .int x1)] := hl
  refine lv_iload_n hx hb d_C_days_0 rfl (lv_at hl 1 rfl) ?_
  refine lv_if_lt (tgt := 10) hx hb d_C_days_1 (by decide) (fun c_1 => ?_) (fun c_1 => ?_)
  · have hw := hw.1 c_1
    exact vx_throwS (own := R_C) (cls := "java/lang/IllegalArgumentException") (names := exN) hx hb hl9 hown (by decide +kernel) (by decide +kernel) (hts _ (kM kw_bedd2d32)) (hts _ (kM kw_ed8d893e)) (hZ.s 16 rfl) (ta_C_IllegalArgumentException (fun w h => hts w (kM h)) hZ) tg_C_IllegalArgumentException hZ.u hZ.n hS (hl.1.trans hml.symm) d_C_days_10 d_C_days_13 d_C_days_14 d_C_days_16 d_C_days_19 (fun x hx => (hEx x hx).elim) (Nat.le_of_ble_eq_true rfl) (Nat.le_of_ble_eq_true rfl) (Nat.le_of_ble_eq_true rfl) (Nat.le_of_ble_eq_true rfl) hlocks (fun t ha hsz hk => ⟨("java/lang/IllegalArgumentException", counts), hw, ⟨rfl, hP.kept (fun k q hq => hk q.1 (hP k q hq).lt), va_K.moved ha hK, hD⟩, Nat.le_trans hS.1 hsz, fun q h1 h2 => (hk q (Nat.lt_of_lt_of_le h1 hS.1)).trans (hS.2.1 q h1 h2)⟩) hS.2.2 (Nat.le_of_ble_eq_true rfl) (Nat.le_of_ble_eq_true rfl)
  · have hw := hw.2 c_1
    refine lv_iload_n hx hb d_C_days_4 rfl (lv_at hl 1 rfl) ?_
    refine lv_bipush (v := (30 : Int32)) hx hb d_C_days_5 (by decide) ?_
    refine lv_icmp_le (tgt := 20) hx hb d_C_days_7 (by decide) (fun c_2 => ?_) (fun c_2 => ?_)
    · have hw := hw.1 c_2
      refine lv_iconst (v := (0 : Int32)) hx hb d_C_days_20 (by decide) ?_
      refine lv_istore_n (lv' := [(2, .int (0 : Int32)), (0, .ref (a 0)), (1, .int x1)]) hx hb d_C_days_21 rfl hl (by decide) rfl (fun ls hl => ?_)
      obtain ⟨K_22, hK_22⟩ : ∃ z : Int32 → (Nat → Int32) → Prop, z = (fun (k_11 : Int32) (k_12 : Nat → Int32) => post k_12) := ⟨_, rfl⟩
      have hw : ∃ n, p_C_days_L22 x1 K_22 n (0 : Int32) counts := by rw [hK_22]; exact hw
      obtain ⟨n_22, hw⟩ := hw
      have key_22 : ∀ (n : Nat) (x2_6 : Int32) (counts_7 : Nat → Int32) (H : Heap) (locs : List Loc) (ls : Array Slot), p_C_days_L22 x1 K_22 n x2_6 counts_7 → va_P D classes (cW a cI cZ places listed front turns fetched placeOf shelfAt isBlocked shelfOf counts_7 isOpen list ring stops fewest isExact shelves stopPlaces taken trial best) H → va_D A (cW a cI cZ places listed front turns fetched placeOf shelfAt isBlocked shelfOf counts_7 isOpen list ring stops fewest isExact shelves stopPlaces taken trial best) → va_S A s.heap H locs → lv_has ls 3 [(2, .int x2_6), (0, .ref (a 0)), (1, .int x1)] → W p l e (headSpec w_C_days rm_C_days).room s m ([.ref (a 0), .int x1] : List Value).toArray below meth c H locs 0 0 (vx_MQ below (va_Qv (fun (u : (Nat → Int32)) => post u) (fun (u : (Nat → Int32)) t => va_P D classes (cW a cI cZ places listed front turns fetched placeOf shelfAt isBlocked shelfOf u isOpen list ring stops fewest isExact shelves stopPlaces taken trial best) t.heap ∧ va_K D classes [(cI, .int), (cZ, .boolean)] t ∧ va_D A (cW a cI cZ places listed front turns fetched placeOf shelfAt isBlocked shelfOf u isOpen list ring stops fewest isExact shelves stopPlaces taken trial best)) A) (vx_X (fun (u : String × (Nat → Int32)) => pex u.1 u.2) (fun E (u : String × (Nat → Int32)) t => u.1 = E ∧ va_P D classes (cW a cI cZ places listed front turns fetched placeOf shelfAt isBlocked shelfOf u.2 isOpen list ring stops fewest isExact shelves stopPlaces taken trial best) t.heap ∧ va_K D classes [(cI, .int), (cZ, .boolean)] t ∧ va_D A (cW a cI cZ places listed front turns fetched placeOf shelfAt isBlocked shelfOf u.2 isOpen list ring stops fewest isExact shelves stopPlaces taken trial best)) A) ([.ref (a 0), .int x1] : List Value).toArray s 1 6 A) (F0 m 22 ls []) := by
        intro n
        induction n with
        | zero => intro x2_6 counts_7 H locs ls hw hP hD hS hl; exact hw.elim
        | succ n ih_22 =>
          intro x2_6 counts_7 H locs ls hw hP hD hS hl
          have hw : p_C_days_L22_B x1 K_22 (p_C_days_L22 x1 K_22 n) x2_6 counts_7 := hw
          generalize p_C_days_L22 x1 K_22 n = rec_22 at hw ih_22
          refine lv_iload_n hx hb d_C_days_22 rfl (lv_at hl 0 rfl) ?_
          refine lv_bipush (v := (20 : Int32)) hx hb d_C_days_23 (by decide) ?_
          refine lv_icmp_ge (tgt := 44) hx hb d_C_days_25 (by decide) (fun c_8 => ?_) (fun c_8 => ?_)
          · have hw := hw.1 c_8
            rw [hK_22] at hw
            have hl : lv_has ls 3 [(2, .int x2_6), (0, .ref (a 0)), (1, .int x1)] := lv_sub hl [0, 1, 2] rfl
            refine W.widen (k := 1) (n := 6) (Nat.le_of_ble_eq_true rfl) (Nat.le_of_ble_eq_true rfl) ?_
            refine vx_ret ?_
            exact W.vret hx hb hr (fun t ht hW => ⟨⟨counts_7, rfl, hw, by rw [ht]; exact hP, va_K.moved hW.alike hK, hD⟩, hS.F ht⟩) hS.2.2 d_C_days_44
          · have hw := hw.2 c_8
            refine lv_aload_n hx hb d_C_days_28 rfl (lv_at hl 1 rfl) ?_
            refine va_get (D := D) (ci := 0) (v := .ref (a 5)) (C := R_C) (T := F_C) (N := 13) hx hb hts (iK iW_C) hown hK hP 0 rfl rfl 5 (by decide) (hts _ (kM kw_bfd2040d)) (fun _ h9 => h9) rfl d_C_days_29 ?_
            refine lv_iload_n hx hb d_C_days_32 rfl (lv_at hl 0 rfl) ?_
            refine lv_dup2_11 hx hb d_C_days_33 rfl rfl ?_
            obtain ⟨h_9, hw⟩ := hw
            refine va_iald hx hb hK hP 5 0 rfl rfl h_9 d_C_days_34 ?_
            refine lv_iload_n hx hb d_C_days_35 rfl (lv_at hl 2 rfl) ?_
            refine lv_ishr hx hb d_C_days_36 ?_
            obtain ⟨h_10, hw⟩ := hw
            refine va_iast hx hb hK hP hD hS 5 0 rfl rfl h_10 d_C_days_37 (fun H locs hP hD hS => ?_)
            have hP : va_P D classes (cW a cI cZ places listed front turns fetched placeOf shelfAt isBlocked shelfOf (upd counts_7 (x2_6).toNatClampNeg ((counts_7 (x2_6).toNatClampNeg) >>> (x1 &&& 31))) isOpen list ring stops fewest isExact shelves stopPlaces taken trial best) H := hP
            have hD : va_D A (cW a cI cZ places listed front turns fetched placeOf shelfAt isBlocked shelfOf (upd counts_7 (x2_6).toNatClampNeg ((counts_7 (x2_6).toNatClampNeg) >>> (x1 &&& 31))) isOpen list ring stops fewest isExact shelves stopPlaces taken trial best) := hD
            refine lv_iinc (v := (x2_6 + 1)) (lv' := [(2, .int (x2_6 + 1)), (0, .ref (a 0)), (1, .int x1)]) hx hb d_C_days_38 hl (k := 0) rfl rfl (by decide) rfl (fun ls hl => ?_)
            refine lv_goto (tgt := 22) hx hb d_C_days_41 (by decide) ?_
            exact ih_22 (x2_6 + 1) (upd counts_7 (x2_6).toNatClampNeg ((counts_7 (x2_6).toNatClampNeg) >>> (x1 &&& 31))) _ _ _ hw hP hD hS (lv_sub hl [0, 1, 2] rfl)
      exact key_22 n_22 (0 : Int32) counts _ _ _ hw hP hD hS (lv_sub hl [0, 1, 2] rfl)
    · have hw := hw.2 c_2
      exact vx_throwS (own := R_C) (cls := "java/lang/IllegalArgumentException") (names := exN) hx hb hl9 hown (by decide +kernel) (by decide +kernel) (hts _ (kM kw_bedd2d32)) (hts _ (kM kw_ed8d893e)) (hZ.s 16 rfl) (ta_C_IllegalArgumentException (fun w h => hts w (kM h)) hZ) tg_C_IllegalArgumentException hZ.u hZ.n hS (hl.1.trans hml.symm) d_C_days_10 d_C_days_13 d_C_days_14 d_C_days_16 d_C_days_19 (fun x hx => (hEx x hx).elim) (Nat.le_of_ble_eq_true rfl) (Nat.le_of_ble_eq_true rfl) (Nat.le_of_ble_eq_true rfl) (Nat.le_of_ble_eq_true rfl) hlocks (fun t ha hsz hk => ⟨("java/lang/IllegalArgumentException", counts), hw, ⟨rfl, hP.kept (fun k q hq => hk q.1 (hP k q hq).lt), va_K.moved ha hK, hD⟩, Nat.le_trans hS.1 hsz, fun q h1 h2 => (hk q (Nat.lt_of_lt_of_le h1 hS.1)).trans (hS.2.1 q h1 h2)⟩) hS.2.2 (Nat.le_of_ble_eq_true rfl) (Nat.le_of_ble_eq_true rfl)
def p_C_learned (x1 : Int32) (counts : Nat → Int32) (post : Int32 → Prop) (pex : String → Prop) : Prop := (p_C_needUnit x1 ((vp_in x1 20 ∧ post (counts (x1).toNatClampNeg))) (fun E_2 => pex E_2))
abbrev rm_C_learned : Room := { frames := 7, cells := 1, slots := 6, locals := 120 }
set_option maxHeartbeats 4000000 in
set_option maxRecDepth 100000 in
theorem c_C_learned {l : Launch} (hl9 : l.stackTraces = false) {D : va_G} {sa : Nat → Nat} {cI cZ : ClassId} {sz : Nat} {a : Nat → Nat} {places : Int32} {listed : Int32} {front : Int32} {turns : Int32} {fetched : Int32} {placeOf : Nat → Int32} {shelfAt : Nat → Int32} {isBlocked : Nat → Int32} {shelfOf : Nat → Int32} {counts : Nat → Int32} {isOpen : Nat → Int32} {list : Nat → Int32} {ring : Int32} {stops : Int32} {fewest : Int32} {isExact : Int32} {shelves : Nat → Int32} {stopPlaces : Nat → Int32} {taken : Nat → Int32} {trial : Nat → Int32} {best : Nat → Int32} {x1 : Int32} {post : Int32 → Prop} {pex : String → Prop} (hw : p_C_learned x1 counts post pex) : vx_Met l y_C_learned w_C_learned rm_C_learned (va_Pc [.ref (a 0), .int x1] (kP D sa [(cI, .int), (cZ, .boolean)] (cW a cI cZ places listed front turns fetched placeOf shelfAt isBlocked shelfOf counts isOpen list ring stops fewest isExact shelves stopPlaces taken trial best) sz)) (va_Qi (fun r (u : Unit) => post r) (fun (u : Unit) t => va_P D classes (cW a cI cZ places listed front turns fetched placeOf shelfAt isBlocked shelfOf counts isOpen list ring stops fewest isExact shelves stopPlaces taken trial best) t.heap ∧ va_K D classes [(cI, .int), (cZ, .boolean)] t ∧ va_D (va_A (cW a cI cZ places listed front turns fetched placeOf shelfAt isBlocked shelfOf counts isOpen list ring stops fewest isExact shelves stopPlaces taken trial best) sz) (cW a cI cZ places listed front turns fetched placeOf shelfAt isBlocked shelfOf counts isOpen list ring stops fewest isExact shelves stopPlaces taken trial best)) (va_A (cW a cI cZ places listed front turns fetched placeOf shelfAt isBlocked shelfOf counts isOpen list ring stops fewest isExact shelves stopPlaces taken trial best) sz)) (vx_X (fun (u : String) => pex u) (fun E (u : String) t => u = E ∧ va_P D classes (cW a cI cZ places listed front turns fetched placeOf shelfAt isBlocked shelfOf counts isOpen list ring stops fewest isExact shelves stopPlaces taken trial best) t.heap ∧ va_K D classes [(cI, .int), (cZ, .boolean)] t ∧ va_D (va_A (cW a cI cZ places listed front turns fetched placeOf shelfAt isBlocked shelfOf counts isOpen list ring stops fewest isExact shelves stopPlaces taken trial best) sz) (cW a cI cZ places listed front turns fetched placeOf shelfAt isBlocked shelfOf counts isOpen list ring stops fewest isExact shelves stopPlaces taken trial best)) (va_A (cW a cI cZ places listed front turns fetched placeOf shelfAt isBlocked shelfOf counts isOpen list ring stops fewest isExact shelves stopPlaces taken trial best) sz)) 1 6 (va_A (cW a cI cZ places listed front turns fetched placeOf shelfAt isBlocked shelfOf counts isOpen list ring stops fewest isExact shelves stopPlaces taken trial best) sz) := by
  refine vx_ofW (cc := b_C_learned) (maxL := 2) (ret := (some .int)) (by decide) rfl ?_
  intro p e s m args below meth c s₁ B hml hEx hv
  obtain ⟨rfl, hsz, hP, hK, hD0, hZ⟩ := hv
  have hx := B.exec
  have hb := B.bytes
  have hr := B.returns
  have hts := atoms_spec (ws := w_C_learned) B.pre
  have hown : s.vm.findClass R_C = some m.cls := findClass_of_methodNamed B.named
  have hlocks := B.notSynchronized
  subst hsz
  have hD := hD0.self (sz := s.heap.size)
  generalize hAe : (va_A (cW a cI cZ places listed front turns fetched placeOf shelfAt isBlocked shelfOf counts isOpen list ring stops fewest isExact shelves stopPlaces taken trial best) s.heap.size) = A at hD hZ ⊢
  have hA : ∀ q : Nat, s.heap.size ≤ q → A q := fun q h => by rw [← hAe]; exact Or.inr h
  have hS : va_S A s.heap s.heap [] := va_S.rf
  have hl := lv_entry ([.ref (a 0), .int x1]) (n := 2) (Nat.le_of_ble_eq_true rfl)
  rw [lg_entry_eq]
  generalize (lg_sl ([.ref (a 0), .int x1]) ++ List.replicate (2 - (lg_sl ([.ref (a 0), .int x1])).length) Slot.unset).toArray = ls at hl ⊢
  have hl : lv_has ls 2 [(0, .ref (a 0)), (1, .int x1)] := hl
  refine lv_iload_n hx hb d_C_learned_0 rfl (lv_at hl 1 rfl) ?_
  have hPc := hP.sub (ws' := []) [] rfl
  have hDc := hD.sub (ws' := []) [] (by decide) rfl
  have hFc := va_free (wc := []) hD hS hA [] rfl
  refine vx_callv (vx_runS (As := [.int x1]) (rest := []) ⟨hx, hb, hml, hown, hts⟩ (c_C_needUnit hl9 hw) (cwS 1 hts (gS k_C_needUnit kw_1da68db5 kw_44579350 kw_91859716) rfl rfl rfl (by decide +kernel) ⟨(Nat.le_of_ble_eq_true rfl), (Nat.le_of_ble_eq_true rfl)⟩) ⟨kP.blind, kP.of hK hPc hDc hZ hS hFc⟩ rfl rfl hl.1 rfl (lv_room (Nat.le_of_ble_eq_true rfl)) d_C_learned_1 ⟨(Nat.le_of_ble_eq_true rfl), (Nat.le_of_ble_eq_true rfl)⟩) hS (fun q _ h => hFc q h) hFc (fun q _ h => hFc q h) (fun E9 ce q9 u t H1 locs ht hvm hw hB hz1 hk1 hS hce hcv hcl => ?_) (fun u t H1 locs ht hvm hw hB hz1 hk1 hS => ?_)
  · obtain ⟨E_2, rfl⟩ : ∃ z, z = u := ⟨_, rfl⟩
    obtain ⟨hE9, hP1, hK1, hD1⟩ := hB
    try dsimp only at hw hP1 hD1 hE9
    subst hE9
    rw [ht] at hP1
    have hK1 := va_K.moved hvm.symm hK1
    obtain ⟨hP, hD⟩ := va_join (wr := cW a cI cZ places listed front turns fetched placeOf shelfAt isBlocked shelfOf counts isOpen list ring stops fewest isExact shelves stopPlaces taken trial best) (w1 := []) hP hD [] [0, 1, 2, 3, 4, 5, 6, 7, 8, 9, 10, 11, 12, 13] rfl rfl (by decide) (by decide) hk1 hFc hP1 hD1
    generalize H1 = H at hP hS hce ⊢
    have hP : va_P D classes (cW a cI cZ places listed front turns fetched placeOf shelfAt isBlocked shelfOf counts isOpen list ring stops fewest isExact shelves stopPlaces taken trial best) H := hP
    have hD : va_D A (cW a cI cZ places listed front turns fetched placeOf shelfAt isBlocked shelfOf counts isOpen list ring stops fewest isExact shelves stopPlaces taken trial best) := hD
    exact vx_out (fun x hx => (hEx x hx).elim) hlocks hce hcv hcl (fun t9 h9 ha => ⟨E_2, hw, ⟨rfl, by rw [h9]; exact hP, va_K.moved ha hK, hD⟩, hS.F h9⟩) hS.2.2 (Nat.le_of_ble_eq_true rfl) (Nat.le_of_ble_eq_true rfl)
  · obtain ⟨⟩ := u
    obtain ⟨hP1, hK1, hD1⟩ := hB
    try dsimp only at hw hP1 hD1
    rw [ht] at hP1
    have hK1 := va_K.moved hvm.symm hK1
    obtain ⟨hP, hD⟩ := va_join (wr := cW a cI cZ places listed front turns fetched placeOf shelfAt isBlocked shelfOf counts isOpen list ring stops fewest isExact shelves stopPlaces taken trial best) (w1 := []) hP hD [] [0, 1, 2, 3, 4, 5, 6, 7, 8, 9, 10, 11, 12, 13] rfl rfl (by decide) (by decide) hk1 hFc hP1 hD1
    generalize H1 = H at hP hS ⊢
    have hP : va_P D classes (cW a cI cZ places listed front turns fetched placeOf shelfAt isBlocked shelfOf counts isOpen list ring stops fewest isExact shelves stopPlaces taken trial best) H := hP
    have hD : va_D A (cW a cI cZ places listed front turns fetched placeOf shelfAt isBlocked shelfOf counts isOpen list ring stops fewest isExact shelves stopPlaces taken trial best) := hD
    refine lv_aload_n hx hb d_C_learned_4 rfl (lv_at hl 0 rfl) ?_
    refine va_get (D := D) (ci := 0) (v := .ref (a 5)) (C := R_C) (T := F_C) (N := 13) hx hb hts (iK iW_C) hown hK hP 0 rfl rfl 5 (by decide) (hts _ (kM kw_bfd2040d)) (fun _ h9 => h9) rfl d_C_learned_5 ?_
    refine lv_iload_n hx hb d_C_learned_8 rfl (lv_at hl 1 rfl) ?_
    obtain ⟨h_1, hw⟩ := hw
    refine va_iald hx hb hK hP 5 0 rfl rfl h_1 d_C_learned_9 ?_
    refine vx_ret ?_
    exact W.iret (v := (counts (x1).toNatClampNeg)) hx hb hr (fun t ht hW => ⟨⟨(counts (x1).toNatClampNeg), (), rfl, hw, by rw [ht]; exact hP, va_K.moved hW.alike hK, hD⟩, hS.F ht⟩) hS.2.2 d_C_learned_10
def p_C_countsOn_L4_B (v1 : Int32) (shelfOf : Nat → Int32) (counts : Nat → Int32) (K_4 : Int32 → Int32 → Prop) (rec_4 : Int32 → Int32 → Prop) (x2_4 : Int32) (x3_4 : Int32) : Prop := (((20 : Int32) ≤ x3_4 → K_4 x2_4 x3_4) ∧ (¬ (20 : Int32) ≤ x3_4 → (vp_in x3_4 20 ∧ ((¬ (shelfOf (x3_4).toNatClampNeg) = v1 → rec_4 x2_4 (x3_4 + 1)) ∧ ((shelfOf (x3_4).toNatClampNeg) = v1 → (vp_in x3_4 20 ∧ rec_4 (x2_4 + (counts (x3_4).toNatClampNeg)) (x3_4 + 1)))))))
def p_C_countsOn_L4 (v1 : Int32) (shelfOf : Nat → Int32) (counts : Nat → Int32) (K_4 : Int32 → Int32 → Prop) : Nat → Int32 → Int32 → Prop
  | 0 => fun _ _ => False
  | n + 1 => p_C_countsOn_L4_B v1 shelfOf counts K_4 (p_C_countsOn_L4 v1 shelfOf counts K_4 n)
def p_C_countsOn (x1 : Int32) (shelfOf : Nat → Int32) (counts : Nat → Int32) (post : Int32 → Prop) : Prop := (∃ n, p_C_countsOn_L4 x1 shelfOf counts (fun (k_11 : Int32) (k_12 : Int32) => post k_11) n (0 : Int32) (0 : Int32))
abbrev rm_C_countsOn : Room := { frames := 1, cells := 0, slots := 0, locals := 40 }
set_option maxHeartbeats 4000000 in
set_option maxRecDepth 100000 in
theorem c_C_countsOn {l : Launch} {D : va_G} {sa : Nat → Nat} {cI cZ : ClassId} {sz : Nat} {a : Nat → Nat} {places : Int32} {listed : Int32} {front : Int32} {turns : Int32} {fetched : Int32} {placeOf : Nat → Int32} {shelfAt : Nat → Int32} {isBlocked : Nat → Int32} {shelfOf : Nat → Int32} {counts : Nat → Int32} {isOpen : Nat → Int32} {list : Nat → Int32} {ring : Int32} {stops : Int32} {fewest : Int32} {isExact : Int32} {shelves : Nat → Int32} {stopPlaces : Nat → Int32} {taken : Nat → Int32} {trial : Nat → Int32} {best : Nat → Int32} {x1 : Int32} {post : Int32 → Prop} (hw : p_C_countsOn x1 shelfOf counts post) : Met l y_C_countsOn w_C_countsOn rm_C_countsOn (va_Pc [.ref (a 0), .int x1] (kP D sa [(cI, .int), (cZ, .boolean)] (cW a cI cZ places listed front turns fetched placeOf shelfAt isBlocked shelfOf counts isOpen list ring stops fewest isExact shelves stopPlaces taken trial best) sz)) (vp_Si post) 0 0 (fun _ => False) := by
  refine Met.ofW (cc := b_C_countsOn) (maxL := 4) (ret := (some .int)) (by decide) rfl ?_
  intro p e s m args below meth c s₁ B hml hv
  obtain ⟨rfl, hsz, hP, hK, hD0, hZ⟩ := hv
  have hx := B.exec
  have hb := B.bytes
  have hr := B.returns
  have hts := atoms_spec (ws := w_C_countsOn) B.pre
  have hown : s.vm.findClass R_C = some m.cls := findClass_of_methodNamed B.named
  have hlocks := B.notSynchronized
  subst hsz
  have hD := hD0.self (sz := s.heap.size)
  generalize hAe : (va_A (cW a cI cZ places listed front turns fetched placeOf shelfAt isBlocked shelfOf counts isOpen list ring stops fewest isExact shelves stopPlaces taken trial best) s.heap.size) = A at hD hZ
  have hA : ∀ q : Nat, s.heap.size ≤ q → A q := fun q h => by rw [← hAe]; exact Or.inr h
  have hS : va_S A s.heap s.heap [] := va_S.rf
  have hl := lv_entry ([.ref (a 0), .int x1]) (n := 4) (Nat.le_of_ble_eq_true rfl)
  rw [lg_entry_eq]
  generalize (lg_sl ([.ref (a 0), .int x1]) ++ List.replicate (4 - (lg_sl ([.ref (a 0), .int x1])).length) Slot.unset).toArray = ls at hl ⊢
  have hl : lv_has ls 4 [(0, .ref (a 0)), (1, .int x1)] := hl
  refine lv_iconst (v := (0 : Int32)) hx hb d_C_countsOn_0 (by decide) ?_
  refine lv_istore_n (lv' := [(2, .int (0 : Int32)), (0, .ref (a 0)), (1, .int x1)]) hx hb d_C_countsOn_1 rfl hl (by decide) rfl (fun ls hl => ?_)
  refine lv_iconst (v := (0 : Int32)) hx hb d_C_countsOn_2 (by decide) ?_
  refine lv_istore_n (lv' := [(3, .int (0 : Int32)), (2, .int (0 : Int32)), (0, .ref (a 0)), (1, .int x1)]) hx hb d_C_countsOn_3 rfl hl (by decide) rfl (fun ls hl => ?_)
  obtain ⟨K_4, hK_4⟩ : ∃ z : Int32 → Int32 → Prop, z = (fun (k_11 : Int32) (k_12 : Int32) => post k_11) := ⟨_, rfl⟩
  have hw : ∃ n, p_C_countsOn_L4 x1 shelfOf counts K_4 n (0 : Int32) (0 : Int32) := by rw [hK_4]; exact hw
  obtain ⟨n_4, hw⟩ := hw
  have key_4 : ∀ (n : Nat) (x2_6 : Int32) (x3_5 : Int32) (ls : Array Slot), p_C_countsOn_L4 x1 shelfOf counts K_4 n x2_6 x3_5 → lv_has ls 4 [(3, .int x3_5), (2, .int x2_6), (0, .ref (a 0)), (1, .int x1)] → W p l e (headSpec w_C_countsOn rm_C_countsOn).room s m ([.ref (a 0), .int x1] : List Value).toArray below meth c s.heap [] 0 0 (MQ below (vp_Si post) ([.ref (a 0), .int x1] : List Value).toArray s 0 0 (fun _ => False)) (F0 m 4 ls []) := by
    intro n
    induction n with
    | zero => intro x2_6 x3_5 ls hw hl; exact hw.elim
    | succ n ih_4 =>
      intro x2_6 x3_5 ls hw hl
      have hw : p_C_countsOn_L4_B x1 shelfOf counts K_4 (p_C_countsOn_L4 x1 shelfOf counts K_4 n) x2_6 x3_5 := hw
      generalize p_C_countsOn_L4 x1 shelfOf counts K_4 n = rec_4 at hw ih_4
      refine lv_iload_n hx hb d_C_countsOn_4 rfl (lv_at hl 0 rfl) ?_
      refine lv_bipush (v := (20 : Int32)) hx hb d_C_countsOn_5 (by decide) ?_
      refine lv_icmp_ge (tgt := 35) hx hb d_C_countsOn_7 (by decide) (fun c_7 => ?_) (fun c_7 => ?_)
      · have hw := hw.1 c_7
        rw [hK_4] at hw
        have hl : lv_has ls 4 [(3, .int x3_5), (2, .int x2_6), (0, .ref (a 0)), (1, .int x1)] := lv_sub hl [0, 1, 2, 3] rfl
        refine lv_iload_n hx hb d_C_countsOn_35 rfl (lv_at hl 1 rfl) ?_
        exact W.iret (v := x2_6) hx hb hr (fun t ht _ => ⟨x2_6, rfl, hw, ht⟩) (by simp) d_C_countsOn_36
      · have hw := hw.2 c_7
        refine lv_aload_n hx hb d_C_countsOn_10 rfl (lv_at hl 2 rfl) ?_
        refine va_get (D := D) (ci := 0) (v := .ref (a 4)) (C := R_C) (T := F_C) (N := 13) hx hb hts (iK iW_C) hown hK hP 0 rfl rfl 4 (by decide) (hts _ (kM kw_03cac826)) (fun _ h9 => h9) rfl d_C_countsOn_11 ?_
        refine lv_iload_n hx hb d_C_countsOn_14 rfl (lv_at hl 0 rfl) ?_
        obtain ⟨h_8, hw⟩ := hw
        refine va_iald hx hb hK hP 4 0 rfl rfl h_8 d_C_countsOn_15 ?_
        refine lv_iload_n hx hb d_C_countsOn_16 rfl (lv_at hl 3 rfl) ?_
        refine lv_icmp_ne (tgt := 29) hx hb d_C_countsOn_17 (by decide) (fun c_9 => ?_) (fun c_9 => ?_)
        · have hw := hw.1 c_9
          refine lv_iinc (v := (x3_5 + 1)) (lv' := [(3, .int (x3_5 + 1)), (2, .int x2_6), (0, .ref (a 0)), (1, .int x1)]) hx hb d_C_countsOn_29 hl (k := 0) rfl rfl (by decide) rfl (fun ls hl => ?_)
          refine lv_goto (tgt := 4) hx hb d_C_countsOn_32 (by decide) ?_
          exact ih_4 x2_6 (x3_5 + 1) _ hw (lv_sub hl [0, 1, 2, 3] rfl)
        · have hw := hw.2 c_9
          refine lv_iload_n hx hb d_C_countsOn_20 rfl (lv_at hl 1 rfl) ?_
          refine lv_aload_n hx hb d_C_countsOn_21 rfl (lv_at hl 2 rfl) ?_
          refine va_get (D := D) (ci := 0) (v := .ref (a 5)) (C := R_C) (T := F_C) (N := 13) hx hb hts (iK iW_C) hown hK hP 0 rfl rfl 5 (by decide) (hts _ (kM kw_bfd2040d)) (fun _ h9 => h9) rfl d_C_countsOn_22 ?_
          refine lv_iload_n hx hb d_C_countsOn_25 rfl (lv_at hl 0 rfl) ?_
          obtain ⟨h_10, hw⟩ := hw
          refine va_iald hx hb hK hP 5 0 rfl rfl h_10 d_C_countsOn_26 ?_
          refine lv_iadd hx hb d_C_countsOn_27 ?_
          refine lv_istore_n (lv' := [(2, .int (x2_6 + (counts (x3_5).toNatClampNeg))), (3, .int x3_5), (0, .ref (a 0)), (1, .int x1)]) hx hb d_C_countsOn_28 rfl hl (by decide) rfl (fun ls hl => ?_)
          refine lv_iinc (v := (x3_5 + 1)) (lv' := [(3, .int (x3_5 + 1)), (2, .int (x2_6 + (counts (x3_5).toNatClampNeg))), (0, .ref (a 0)), (1, .int x1)]) hx hb d_C_countsOn_29 hl (k := 1) rfl rfl (by decide) rfl (fun ls hl => ?_)
          refine lv_goto (tgt := 4) hx hb d_C_countsOn_32 (by decide) ?_
          exact ih_4 (x2_6 + (counts (x3_5).toNatClampNeg)) (x3_5 + 1) _ hw (lv_sub hl [0, 1, 2, 3] rfl)
  exact key_4 n_4 (0 : Int32) (0 : Int32) _ hw (lv_sub hl [0, 1, 2, 3] rfl)
def p_C_rest_L19_B (places : Int32) (shelfOf : Nat → Int32) (counts : Nat → Int32) (K_19 : Int32 → Int32 → Int32 → Prop) (rec_19 : Int32 → Int32 → Int32 → Prop) (x1_19 : Int32) (x2_19 : Int32) (x3_19 : Int32) : Prop := ((places ≤ x3_19 → K_19 x1_19 x2_19 x3_19) ∧ (¬ places ≤ x3_19 → (p_C_countsOn x3_19 shelfOf counts (fun r_4 => ((r_4 ≤ x2_19 → rec_19 x1_19 x2_19 (x3_19 + 1)) ∧ (¬ r_4 ≤ x2_19 → rec_19 x3_19 r_4 (x3_19 + 1)))))))
def p_C_rest_L19 (places : Int32) (shelfOf : Nat → Int32) (counts : Nat → Int32) (K_19 : Int32 → Int32 → Int32 → Prop) : Nat → Int32 → Int32 → Int32 → Prop
  | 0 => fun _ _ _ => False
  | n + 1 => p_C_rest_L19_B places shelfOf counts K_19 (p_C_rest_L19 places shelfOf counts K_19 n)
def p_C_rest (places : Int32) (placeOf : Nat → Int32) (shelfOf : Nat → Int32) (counts : Nat → Int32) (post : Int32 → Prop) : Prop := ((¬ places = 0 → (p_C_countsOn (0 : Int32) shelfOf counts (fun r_2 => (∃ n, p_C_rest_L19 places shelfOf counts (fun (k_12 : Int32) (k_13 : Int32) (k_14 : Int32) => (vp_in k_12 24 ∧ post (placeOf (k_12).toNatClampNeg))) n (0 : Int32) r_2 (1 : Int32))))) ∧ (places = 0 → post (-1 : Int32)))
abbrev rm_C_rest : Room := { frames := 2, cells := 0, slots := 0, locals := 63 }
set_option maxHeartbeats 4000000 in
set_option maxRecDepth 100000 in
theorem c_C_rest {l : Launch} {D : va_G} {sa : Nat → Nat} {cI cZ : ClassId} {sz : Nat} {a : Nat → Nat} {places : Int32} {listed : Int32} {front : Int32} {turns : Int32} {fetched : Int32} {placeOf : Nat → Int32} {shelfAt : Nat → Int32} {isBlocked : Nat → Int32} {shelfOf : Nat → Int32} {counts : Nat → Int32} {isOpen : Nat → Int32} {list : Nat → Int32} {ring : Int32} {stops : Int32} {fewest : Int32} {isExact : Int32} {shelves : Nat → Int32} {stopPlaces : Nat → Int32} {taken : Nat → Int32} {trial : Nat → Int32} {best : Nat → Int32} {post : Int32 → Prop} (hw : p_C_rest places placeOf shelfOf counts post) : Met l y_C_rest w_C_rest rm_C_rest (va_Pc [.ref (a 0)] (kP D sa [(cI, .int), (cZ, .boolean)] (cW a cI cZ places listed front turns fetched placeOf shelfAt isBlocked shelfOf counts isOpen list ring stops fewest isExact shelves stopPlaces taken trial best) sz)) (vp_Si post) 0 0 (fun _ => False) := by
  refine Met.ofW (cc := b_C_rest) (maxL := 5) (ret := (some .int)) (by decide) rfl ?_
  intro p e s m args below meth c s₁ B hml hv
  obtain ⟨rfl, hsz, hP, hK, hD0, hZ⟩ := hv
  have hx := B.exec
  have hb := B.bytes
  have hr := B.returns
  have hts := atoms_spec (ws := w_C_rest) B.pre
  have hown : s.vm.findClass R_C = some m.cls := findClass_of_methodNamed B.named
  have hlocks := B.notSynchronized
  subst hsz
  have hD := hD0.self (sz := s.heap.size)
  generalize hAe : (va_A (cW a cI cZ places listed front turns fetched placeOf shelfAt isBlocked shelfOf counts isOpen list ring stops fewest isExact shelves stopPlaces taken trial best) s.heap.size) = A at hD hZ
  have hA : ∀ q : Nat, s.heap.size ≤ q → A q := fun q h => by rw [← hAe]; exact Or.inr h
  have hS : va_S A s.heap s.heap [] := va_S.rf
  have hl := lv_entry ([.ref (a 0)]) (n := 5) (Nat.le_of_ble_eq_true rfl)
  rw [lg_entry_eq]
  generalize (lg_sl ([.ref (a 0)]) ++ List.replicate (5 - (lg_sl ([.ref (a 0)])).length) Slot.unset).toArray = ls at hl ⊢
  have hl : lv_has ls 5 [(0, .ref (a 0))] := hl
  refine lv_aload_n hx hb d_C_rest_0 rfl (lv_at hl 0 rfl) ?_
  refine va_get (D := D) (ci := 0) (v := .int places) (C := R_C) (T := F_C) (N := 13) hx hb hts (iK iW_C) hown hK hP 0 rfl rfl 0 (by decide) (hts _ (kM kw_e5f6e787)) (fun _ h9 => h9) rfl d_C_rest_1 ?_
  refine lv_if_ne (tgt := 9) hx hb d_C_rest_4 (by decide) (fun c_1 => ?_) (fun c_1 => ?_)
  · have hw := hw.1 c_1
    refine lv_iconst (v := (0 : Int32)) hx hb d_C_rest_9 (by decide) ?_
    refine lv_istore_n (lv' := [(1, .int (0 : Int32)), (0, .ref (a 0))]) hx hb d_C_rest_10 rfl hl (by decide) rfl (fun ls hl => ?_)
    refine lv_aload_n hx hb d_C_rest_11 rfl (lv_at hl 1 rfl) ?_
    refine lv_iconst (v := (0 : Int32)) hx hb d_C_rest_12 (by decide) ?_
    have hPc := hP
    have hDc := hD
    have hFc := va_free (wc := cW a cI cZ places listed front turns fetched placeOf shelfAt isBlocked shelfOf counts isOpen list ring stops fewest isExact shelves stopPlaces taken trial best) hD hS hA [0, 1, 2, 3, 4, 5, 6, 7, 8, 9, 10, 11, 12, 13] rfl
    refine vp_callSi (W.runV (As := [.int (0 : Int32)]) (rest := []) ⟨hx, hb, hml, hown, hts⟩ (c_C_countsOn hw) (cwV 1 hts (gV k_C_countsOn kw_23accbdb kw_f2104014 kw_37c7dc60 kw_91859716) rfl rfl rfl (by decide +kernel) ⟨(Nat.le_of_ble_eq_true rfl), (Nat.le_of_ble_eq_true rfl)⟩) ⟨kP.blind, va_recv hK hPc (ci := 0) (q0 := 0) rfl rfl, kP.of hK hPc hDc hZ hS hFc⟩ rfl rfl hl.1 rfl (lv_room (Nat.le_of_ble_eq_true rfl)) d_C_rest_13 ⟨(Nat.le_of_ble_eq_true rfl), (Nat.le_of_ble_eq_true rfl)⟩) (fun r_2 hw => ?_)
    refine lv_istore_n (lv' := [(2, .int r_2), (1, .int (0 : Int32)), (0, .ref (a 0))]) hx hb d_C_rest_16 rfl hl (by decide) rfl (fun ls hl => ?_)
    refine lv_iconst (v := (1 : Int32)) hx hb d_C_rest_17 (by decide) ?_
    refine lv_istore_n (lv' := [(3, .int (1 : Int32)), (2, .int r_2), (1, .int (0 : Int32)), (0, .ref (a 0))]) hx hb d_C_rest_18 rfl hl (by decide) rfl (fun ls hl => ?_)
    obtain ⟨K_19, hK_19⟩ : ∃ z : Int32 → Int32 → Int32 → Prop, z = (fun (k_12 : Int32) (k_13 : Int32) (k_14 : Int32) => (vp_in k_12 24 ∧ post (placeOf (k_12).toNatClampNeg))) := ⟨_, rfl⟩
    have hw : ∃ n, p_C_rest_L19 places shelfOf counts K_19 n (0 : Int32) r_2 (1 : Int32) := by rw [hK_19]; exact hw
    obtain ⟨n_19, hw⟩ := hw
    have key_19 : ∀ (n : Nat) (x1_8 : Int32) (x2_7 : Int32) (x3_6 : Int32) (ls : Array Slot), p_C_rest_L19 places shelfOf counts K_19 n x1_8 x2_7 x3_6 → lv_has ls 5 [(3, .int x3_6), (2, .int x2_7), (1, .int x1_8), (0, .ref (a 0))] → W p l e (headSpec w_C_rest rm_C_rest).room s m ([.ref (a 0)] : List Value).toArray below meth c s.heap [] 0 0 (MQ below (vp_Si post) ([.ref (a 0)] : List Value).toArray s 0 0 (fun _ => False)) (F0 m 19 ls []) := by
      intro n
      induction n with
      | zero => intro x1_8 x2_7 x3_6 ls hw hl; exact hw.elim
      | succ n ih_19 =>
        intro x1_8 x2_7 x3_6 ls hw hl
        have hw : p_C_rest_L19_B places shelfOf counts K_19 (p_C_rest_L19 places shelfOf counts K_19 n) x1_8 x2_7 x3_6 := hw
        generalize p_C_rest_L19 places shelfOf counts K_19 n = rec_19 at hw ih_19
        refine lv_iload_n hx hb d_C_rest_19 rfl (lv_at hl 0 rfl) ?_
        refine lv_aload_n hx hb d_C_rest_20 rfl (lv_at hl 3 rfl) ?_
        refine va_get (D := D) (ci := 0) (v := .int places) (C := R_C) (T := F_C) (N := 13) hx hb hts (iK iW_C) hown hK hP 0 rfl rfl 0 (by decide) (hts _ (kM kw_e5f6e787)) (fun _ h9 => h9) rfl d_C_rest_21 ?_
        refine lv_icmp_ge (tgt := 51) hx hb d_C_rest_24 (by decide) (fun c_9 => ?_) (fun c_9 => ?_)
        · have hw := hw.1 c_9
          rw [hK_19] at hw
          have hl : lv_has ls 5 [(3, .int x3_6), (2, .int x2_7), (1, .int x1_8), (0, .ref (a 0))] := lv_sub hl [0, 1, 2, 3] rfl
          refine lv_aload_n hx hb d_C_rest_51 rfl (lv_at hl 3 rfl) ?_
          refine va_get (D := D) (ci := 0) (v := .ref (a 1)) (C := R_C) (T := F_C) (N := 13) hx hb hts (iK iW_C) hown hK hP 0 rfl rfl 1 (by decide) (hts _ (kM kw_47d73e1c)) (fun _ h9 => h9) rfl d_C_rest_52 ?_
          refine lv_iload_n hx hb d_C_rest_55 rfl (lv_at hl 2 rfl) ?_
          obtain ⟨h_15, hw⟩ := hw
          refine va_iald hx hb hK hP 1 0 rfl rfl h_15 d_C_rest_56 ?_
          exact W.iret (v := (placeOf (x1_8).toNatClampNeg)) hx hb hr (fun t ht _ => ⟨(placeOf (x1_8).toNatClampNeg), rfl, hw, ht⟩) (by simp) d_C_rest_57
        · have hw := hw.2 c_9
          refine lv_aload_n hx hb d_C_rest_27 rfl (lv_at hl 3 rfl) ?_
          refine lv_iload_n hx hb d_C_rest_28 rfl (lv_at hl 0 rfl) ?_
          have hPc := hP
          have hDc := hD
          have hFc := va_free (wc := cW a cI cZ places listed front turns fetched placeOf shelfAt isBlocked shelfOf counts isOpen list ring stops fewest isExact shelves stopPlaces taken trial best) hD hS hA [0, 1, 2, 3, 4, 5, 6, 7, 8, 9, 10, 11, 12, 13] rfl
          refine vp_callSi (W.runV (As := [.int x3_6]) (rest := []) ⟨hx, hb, hml, hown, hts⟩ (c_C_countsOn hw) (cwV 1 hts (gV k_C_countsOn kw_23accbdb kw_f2104014 kw_37c7dc60 kw_91859716) rfl rfl rfl (by decide +kernel) ⟨(Nat.le_of_ble_eq_true rfl), (Nat.le_of_ble_eq_true rfl)⟩) ⟨kP.blind, va_recv hK hPc (ci := 0) (q0 := 0) rfl rfl, kP.of hK hPc hDc hZ hS hFc⟩ rfl rfl hl.1 rfl (lv_room (Nat.le_of_ble_eq_true rfl)) d_C_rest_29 ⟨(Nat.le_of_ble_eq_true rfl), (Nat.le_of_ble_eq_true rfl)⟩) (fun r_10 hw => ?_)
          refine lv_istore (lv' := [(4, .int r_10), (3, .int x3_6), (2, .int x2_7), (1, .int x1_8), (0, .ref (a 0))]) hx hb d_C_rest_32 hl (by decide) rfl (fun ls hl => ?_)
          refine lv_iload hx hb d_C_rest_34 (lv_at hl 0 rfl) ?_
          refine lv_iload_n hx hb d_C_rest_36 rfl (lv_at hl 2 rfl) ?_
          refine lv_icmp_le (tgt := 45) hx hb d_C_rest_37 (by decide) (fun c_11 => ?_) (fun c_11 => ?_)
          · have hw := hw.1 c_11
            refine lv_iinc (v := (x3_6 + 1)) (lv' := [(3, .int (x3_6 + 1)), (4, .int r_10), (2, .int x2_7), (1, .int x1_8), (0, .ref (a 0))]) hx hb d_C_rest_45 hl (k := 1) rfl rfl (by decide) rfl (fun ls hl => ?_)
            refine lv_goto (tgt := 19) hx hb d_C_rest_48 (by decide) ?_
            exact ih_19 x1_8 x2_7 (x3_6 + 1) _ hw (lv_sub hl [0, 2, 3, 4] rfl)
          · have hw := hw.2 c_11
            refine lv_iload_n hx hb d_C_rest_40 rfl (lv_at hl 1 rfl) ?_
            refine lv_istore_n (lv' := [(1, .int x3_6), (4, .int r_10), (3, .int x3_6), (2, .int x2_7), (0, .ref (a 0))]) hx hb d_C_rest_41 rfl hl (by decide) rfl (fun ls hl => ?_)
            refine lv_iload hx hb d_C_rest_42 (lv_at hl 1 rfl) ?_
            refine lv_istore_n (lv' := [(2, .int r_10), (1, .int x3_6), (4, .int r_10), (3, .int x3_6), (0, .ref (a 0))]) hx hb d_C_rest_44 rfl hl (by decide) rfl (fun ls hl => ?_)
            refine lv_iinc (v := (x3_6 + 1)) (lv' := [(3, .int (x3_6 + 1)), (2, .int r_10), (1, .int x3_6), (4, .int r_10), (0, .ref (a 0))]) hx hb d_C_rest_45 hl (k := 3) rfl rfl (by decide) rfl (fun ls hl => ?_)
            refine lv_goto (tgt := 19) hx hb d_C_rest_48 (by decide) ?_
            exact ih_19 x3_6 r_10 (x3_6 + 1) _ hw (lv_sub hl [0, 1, 2, 4] rfl)
    exact key_19 n_19 (0 : Int32) r_2 (1 : Int32) _ hw (lv_sub hl [0, 1, 2, 3] rfl)
  · have hw := hw.2 c_1
    refine lv_iconst (v := (-1 : Int32)) hx hb d_C_rest_7 (by decide) ?_
    exact W.iret (v := (-1 : Int32)) hx hb hr (fun t ht _ => ⟨(-1 : Int32), rfl, hw, ht⟩) (by simp) d_C_rest_8
def p_C_shelf (x1 : Int32) (x2 : Int32) (places : Int32) (front : Int32) (placeOf : Nat → Int32) (isBlocked : Nat → Int32) (shelfOf : Nat → Int32) (counts : Nat → Int32) (post : Int32 → Prop) (pex : String → Prop) : Prop := (p_C_needShelf x1 places (((x2 = (0 : Int32) → (vp_in x1 24 ∧ post (placeOf (x1).toNatClampNeg))) ∧ (¬ x2 = (0 : Int32) → ((x2 = (1 : Int32) → (p_C_unitsOn x1 shelfOf (fun r_4 => post r_4))) ∧ (¬ x2 = (1 : Int32) → ((x2 = (2 : Int32) → (vp_in x1 24 ∧ (((isBlocked (x1).toNatClampNeg) = 0 → post (0 : Int32)) ∧ (¬ (isBlocked (x1).toNatClampNeg) = 0 → post (1 : Int32))))) ∧ (¬ x2 = (2 : Int32) → ((x2 = (3 : Int32) → (vp_in x1 24 ∧ (p_C_distance front (placeOf (x1).toNatClampNeg) places (fun r_10 => post r_10)))) ∧ (¬ x2 = (3 : Int32) → ((x2 = (4 : Int32) → (p_C_countsOn x1 shelfOf counts (fun r_12 => post r_12))) ∧ (¬ x2 = (4 : Int32) → pex "java/lang/IllegalArgumentException"))))))))))) (fun E_13 => pex E_13))
abbrev rm_C_shelf : Room := { frames := 7, cells := 2, slots := 12, locals := 121 }
set_option maxHeartbeats 4000000 in
set_option maxRecDepth 100000 in
theorem c_C_shelf {l : Launch} (hl9 : l.stackTraces = false) {D : va_G} {sa : Nat → Nat} {cI cZ : ClassId} {sz : Nat} {a : Nat → Nat} {places : Int32} {listed : Int32} {front : Int32} {turns : Int32} {fetched : Int32} {placeOf : Nat → Int32} {shelfAt : Nat → Int32} {isBlocked : Nat → Int32} {shelfOf : Nat → Int32} {counts : Nat → Int32} {isOpen : Nat → Int32} {list : Nat → Int32} {ring : Int32} {stops : Int32} {fewest : Int32} {isExact : Int32} {shelves : Nat → Int32} {stopPlaces : Nat → Int32} {taken : Nat → Int32} {trial : Nat → Int32} {best : Nat → Int32} {x1 : Int32} {x2 : Int32} {post : Int32 → Prop} {pex : String → Prop} (hw : p_C_shelf x1 x2 places front placeOf isBlocked shelfOf counts post pex) : vx_Met l y_C_shelf w_C_shelf rm_C_shelf (va_Pc [.ref (a 0), .int x1, .int x2] (kP D sa [(cI, .int), (cZ, .boolean)] (cW a cI cZ places listed front turns fetched placeOf shelfAt isBlocked shelfOf counts isOpen list ring stops fewest isExact shelves stopPlaces taken trial best) sz)) (va_Qi (fun r (u : Unit) => post r) (fun (u : Unit) t => va_P D classes (cW a cI cZ places listed front turns fetched placeOf shelfAt isBlocked shelfOf counts isOpen list ring stops fewest isExact shelves stopPlaces taken trial best) t.heap ∧ va_K D classes [(cI, .int), (cZ, .boolean)] t ∧ va_D (va_A (cW a cI cZ places listed front turns fetched placeOf shelfAt isBlocked shelfOf counts isOpen list ring stops fewest isExact shelves stopPlaces taken trial best) sz) (cW a cI cZ places listed front turns fetched placeOf shelfAt isBlocked shelfOf counts isOpen list ring stops fewest isExact shelves stopPlaces taken trial best)) (va_A (cW a cI cZ places listed front turns fetched placeOf shelfAt isBlocked shelfOf counts isOpen list ring stops fewest isExact shelves stopPlaces taken trial best) sz)) (vx_X (fun (u : String) => pex u) (fun E (u : String) t => u = E ∧ va_P D classes (cW a cI cZ places listed front turns fetched placeOf shelfAt isBlocked shelfOf counts isOpen list ring stops fewest isExact shelves stopPlaces taken trial best) t.heap ∧ va_K D classes [(cI, .int), (cZ, .boolean)] t ∧ va_D (va_A (cW a cI cZ places listed front turns fetched placeOf shelfAt isBlocked shelfOf counts isOpen list ring stops fewest isExact shelves stopPlaces taken trial best) sz) (cW a cI cZ places listed front turns fetched placeOf shelfAt isBlocked shelfOf counts isOpen list ring stops fewest isExact shelves stopPlaces taken trial best)) (va_A (cW a cI cZ places listed front turns fetched placeOf shelfAt isBlocked shelfOf counts isOpen list ring stops fewest isExact shelves stopPlaces taken trial best) sz)) 2 12 (va_A (cW a cI cZ places listed front turns fetched placeOf shelfAt isBlocked shelfOf counts isOpen list ring stops fewest isExact shelves stopPlaces taken trial best) sz) := by
  refine vx_ofW (cc := b_C_shelf) (maxL := 3) (ret := (some .int)) (by decide) rfl ?_
  intro p e s m args below meth c s₁ B hml hEx hv
  obtain ⟨rfl, hsz, hP, hK, hD0, hZ⟩ := hv
  have hx := B.exec
  have hb := B.bytes
  have hr := B.returns
  have hts := atoms_spec (ws := w_C_shelf) B.pre
  have hown : s.vm.findClass R_C = some m.cls := findClass_of_methodNamed B.named
  have hlocks := B.notSynchronized
  subst hsz
  have hD := hD0.self (sz := s.heap.size)
  generalize hAe : (va_A (cW a cI cZ places listed front turns fetched placeOf shelfAt isBlocked shelfOf counts isOpen list ring stops fewest isExact shelves stopPlaces taken trial best) s.heap.size) = A at hD hZ ⊢
  have hA : ∀ q : Nat, s.heap.size ≤ q → A q := fun q h => by rw [← hAe]; exact Or.inr h
  have hS : va_S A s.heap s.heap [] := va_S.rf
  have hl := lv_entry ([.ref (a 0), .int x1, .int x2]) (n := 3) (Nat.le_of_ble_eq_true rfl)
  rw [lg_entry_eq]
  generalize (lg_sl ([.ref (a 0), .int x1, .int x2]) ++ List.replicate (3 - (lg_sl ([.ref (a 0), .int x1, .int x2])).length) Slot.unset).toArray = ls at hl ⊢
  have hl : lv_has ls 3 [(0, .ref (a 0)), (1, .int x1), (2, .int x2)] := hl
  refine lv_aload_n hx hb d_C_shelf_0 rfl (lv_at hl 0 rfl) ?_
  refine lv_iload_n hx hb d_C_shelf_1 rfl (lv_at hl 1 rfl) ?_
  have hPc := hP
  have hDc := hD
  have hFc := va_free (wc := cW a cI cZ places listed front turns fetched placeOf shelfAt isBlocked shelfOf counts isOpen list ring stops fewest isExact shelves stopPlaces taken trial best) hD hS hA [0, 1, 2, 3, 4, 5, 6, 7, 8, 9, 10, 11, 12, 13] rfl
  refine vx_callv (vx_runV (As := [.int x1]) (rest := []) ⟨hx, hb, hml, hown, hts⟩ (c_C_needShelf hl9 hw) (cwV 1 hts (gV k_C_needShelf kw_d3d87068 kw_1b9f8d0a kw_d1e1ea5a kw_91859716) rfl rfl rfl (by decide +kernel) ⟨(Nat.le_of_ble_eq_true rfl), (Nat.le_of_ble_eq_true rfl)⟩) ⟨kP.blind, va_recv hK hPc (ci := 0) (q0 := 0) rfl rfl, kP.of hK hPc hDc hZ hS hFc⟩ rfl rfl hl.1 rfl (lv_room (Nat.le_of_ble_eq_true rfl)) d_C_shelf_2 ⟨(Nat.le_of_ble_eq_true rfl), (Nat.le_of_ble_eq_true rfl)⟩) hS (fun q _ h => hFc q h) hFc (fun q _ h => hFc q h) (fun E9 ce q9 u t H1 locs ht hvm hw hB hz1 hk1 hS hce hcv hcl => ?_) (fun u t H1 locs ht hvm hw hB hz1 hk1 hS => ?_)
  · obtain ⟨E_13, rfl⟩ : ∃ z, z = u := ⟨_, rfl⟩
    obtain ⟨hE9, hP1, hK1, hD1⟩ := hB
    try dsimp only at hw hP1 hD1 hE9
    subst hE9
    rw [ht] at hP1
    have hK1 := va_K.moved hvm.symm hK1
    obtain ⟨hP, hD⟩ := va_join (wr := []) (w1 := cW a cI cZ places listed front turns fetched placeOf shelfAt isBlocked shelfOf counts isOpen list ring stops fewest isExact shelves stopPlaces taken trial best) hP hD [0, 1, 2, 3, 4, 5, 6, 7, 8, 9, 10, 11, 12, 13] [] rfl rfl (by decide) (by decide) hk1 hFc hP1 hD1
    generalize H1 = H at hP hS hce ⊢
    have hP : va_P D classes (cW a cI cZ places listed front turns fetched placeOf shelfAt isBlocked shelfOf counts isOpen list ring stops fewest isExact shelves stopPlaces taken trial best) H := hP
    have hD : va_D A (cW a cI cZ places listed front turns fetched placeOf shelfAt isBlocked shelfOf counts isOpen list ring stops fewest isExact shelves stopPlaces taken trial best) := hD
    exact vx_out (fun x hx => (hEx x hx).elim) hlocks hce hcv hcl (fun t9 h9 ha => ⟨E_13, hw, ⟨rfl, by rw [h9]; exact hP, va_K.moved ha hK, hD⟩, hS.F h9⟩) hS.2.2 (Nat.le_of_ble_eq_true rfl) (Nat.le_of_ble_eq_true rfl)
  · obtain ⟨⟩ := u
    obtain ⟨hP1, hK1, hD1⟩ := hB
    try dsimp only at hw hP1 hD1
    rw [ht] at hP1
    have hK1 := va_K.moved hvm.symm hK1
    obtain ⟨hP, hD⟩ := va_join (wr := []) (w1 := cW a cI cZ places listed front turns fetched placeOf shelfAt isBlocked shelfOf counts isOpen list ring stops fewest isExact shelves stopPlaces taken trial best) hP hD [0, 1, 2, 3, 4, 5, 6, 7, 8, 9, 10, 11, 12, 13] [] rfl rfl (by decide) (by decide) hk1 hFc hP1 hD1
    generalize H1 = H at hP hS ⊢
    have hP : va_P D classes (cW a cI cZ places listed front turns fetched placeOf shelfAt isBlocked shelfOf counts isOpen list ring stops fewest isExact shelves stopPlaces taken trial best) H := hP
    have hD : va_D A (cW a cI cZ places listed front turns fetched placeOf shelfAt isBlocked shelfOf counts isOpen list ring stops fewest isExact shelves stopPlaces taken trial best) := hD
    refine lv_iload_n hx hb d_C_shelf_5 rfl (lv_at hl 2 rfl) ?_
    rcases Classical.em (x2 = (0 : Int32)) with c_1 | c_1
    · have hw := hw.1 c_1
      refine lv_tableIn (tgt := 40) hx hb d_C_shelf_6 (by rw [c_1]; decide) (by rw [c_1]; decide) (by rw [c_1]; rfl) (by decide) ?_
      refine lv_aload_n hx hb d_C_shelf_40 rfl (lv_at hl 0 rfl) ?_
      refine va_get (D := D) (ci := 0) (v := .ref (a 1)) (C := R_C) (T := F_C) (N := 13) hx hb hts (iK iW_C) hown hK hP 0 rfl rfl 1 (by decide) (hts _ (kM kw_47d73e1c)) (fun _ h9 => h9) rfl d_C_shelf_41 ?_
      refine lv_iload_n hx hb d_C_shelf_44 rfl (lv_at hl 1 rfl) ?_
      obtain ⟨h_2, hw⟩ := hw
      refine va_iald hx hb hK hP 1 0 rfl rfl h_2 d_C_shelf_45 ?_
      refine W.widen (k := 2) (n := 12) (Nat.le_of_ble_eq_true rfl) (Nat.le_of_ble_eq_true rfl) ?_
      refine vx_ret ?_
      exact W.iret (v := (placeOf (x1).toNatClampNeg)) hx hb hr (fun t ht hW => ⟨⟨(placeOf (x1).toNatClampNeg), (), rfl, hw, by rw [ht]; exact hP, va_K.moved hW.alike hK, hD⟩, hS.F ht⟩) hS.2.2 d_C_shelf_46
    · have hw := hw.2 c_1
      rcases Classical.em (x2 = (1 : Int32)) with c_3 | c_3
      · have hw := hw.1 c_3
        refine lv_tableIn (tgt := 47) hx hb d_C_shelf_6 (by rw [c_3]; decide) (by rw [c_3]; decide) (by rw [c_3]; rfl) (by decide) ?_
        refine lv_aload_n hx hb d_C_shelf_47 rfl (lv_at hl 0 rfl) ?_
        refine lv_iload_n hx hb d_C_shelf_48 rfl (lv_at hl 1 rfl) ?_
        have hPc := hP
        have hDc := hD
        have hFc := va_free (wc := cW a cI cZ places listed front turns fetched placeOf shelfAt isBlocked shelfOf counts isOpen list ring stops fewest isExact shelves stopPlaces taken trial best) hD hS hA [0, 1, 2, 3, 4, 5, 6, 7, 8, 9, 10, 11, 12, 13] rfl
        refine vp_callSi (W.runV (As := [.int x1]) (rest := []) ⟨hx, hb, hml, hown, hts⟩ (c_C_unitsOn hw) (cwV 1 hts (gV k_C_unitsOn kw_078fa5c8 kw_6fa1b578 kw_f7c9ea3c kw_91859716) rfl rfl rfl (by decide +kernel) ⟨(Nat.le_of_ble_eq_true rfl), (Nat.le_of_ble_eq_true rfl)⟩) ⟨kP.blind, va_recv hK hPc (ci := 0) (q0 := 0) rfl rfl, kP.of hK hPc hDc hZ hS hFc⟩ rfl rfl hl.1 rfl (lv_room (Nat.le_of_ble_eq_true rfl)) d_C_shelf_49 ⟨(Nat.le_of_ble_eq_true rfl), (Nat.le_of_ble_eq_true rfl)⟩) (fun r_4 hw => ?_)
        refine W.widen (k := 2) (n := 12) (Nat.le_of_ble_eq_true rfl) (Nat.le_of_ble_eq_true rfl) ?_
        refine vx_ret ?_
        exact W.iret (v := r_4) hx hb hr (fun t ht hW => ⟨⟨r_4, (), rfl, hw, by rw [ht]; exact hP, va_K.moved hW.alike hK, hD⟩, hS.F ht⟩) hS.2.2 d_C_shelf_52
      · have hw := hw.2 c_3
        rcases Classical.em (x2 = (2 : Int32)) with c_5 | c_5
        · have hw := hw.1 c_5
          refine lv_tableIn (tgt := 53) hx hb d_C_shelf_6 (by rw [c_5]; decide) (by rw [c_5]; decide) (by rw [c_5]; rfl) (by decide) ?_
          refine lv_aload_n hx hb d_C_shelf_53 rfl (lv_at hl 0 rfl) ?_
          refine va_get (D := D) (ci := 0) (v := .ref (a 3)) (C := R_C) (T := F_C) (N := 13) hx hb hts (iK iW_C) hown hK hP 0 rfl rfl 3 (by decide) (hts _ (kM kw_932815e5)) (fun _ h9 => h9) rfl d_C_shelf_54 ?_
          refine lv_iload_n hx hb d_C_shelf_57 rfl (lv_at hl 1 rfl) ?_
          obtain ⟨h_6, hw⟩ := hw
          refine va_zald hx hb hK hP 3 1 rfl rfl h_6 d_C_shelf_58 ?_
          refine lv_if_eq (tgt := 66) hx hb d_C_shelf_59 (by decide) (fun c_7 => ?_) (fun c_7 => ?_)
          · have hw := hw.1 c_7
            refine lv_iconst (v := (0 : Int32)) hx hb d_C_shelf_66 (by decide) ?_
            refine W.widen (k := 2) (n := 12) (Nat.le_of_ble_eq_true rfl) (Nat.le_of_ble_eq_true rfl) ?_
            refine vx_ret ?_
            exact W.iret (v := (0 : Int32)) hx hb hr (fun t ht hW => ⟨⟨(0 : Int32), (), rfl, hw, by rw [ht]; exact hP, va_K.moved hW.alike hK, hD⟩, hS.F ht⟩) hS.2.2 d_C_shelf_67
          · have hw := hw.2 c_7
            refine lv_iconst (v := (1 : Int32)) hx hb d_C_shelf_62 (by decide) ?_
            refine lv_goto (tgt := 67) hx hb d_C_shelf_63 (by decide) ?_
            refine W.widen (k := 2) (n := 12) (Nat.le_of_ble_eq_true rfl) (Nat.le_of_ble_eq_true rfl) ?_
            refine vx_ret ?_
            exact W.iret (v := (1 : Int32)) hx hb hr (fun t ht hW => ⟨⟨(1 : Int32), (), rfl, hw, by rw [ht]; exact hP, va_K.moved hW.alike hK, hD⟩, hS.F ht⟩) hS.2.2 d_C_shelf_67
        · have hw := hw.2 c_5
          rcases Classical.em (x2 = (3 : Int32)) with c_8 | c_8
          · have hw := hw.1 c_8
            refine lv_tableIn (tgt := 68) hx hb d_C_shelf_6 (by rw [c_8]; decide) (by rw [c_8]; decide) (by rw [c_8]; rfl) (by decide) ?_
            refine lv_aload_n hx hb d_C_shelf_68 rfl (lv_at hl 0 rfl) ?_
            refine va_get (D := D) (ci := 0) (v := .int front) (C := R_C) (T := F_C) (N := 13) hx hb hts (iK iW_C) hown hK hP 0 rfl rfl 10 (by decide) (hts _ (kM kw_e1db8a3f)) (fun _ h9 => h9) rfl d_C_shelf_69 ?_
            refine lv_aload_n hx hb d_C_shelf_72 rfl (lv_at hl 0 rfl) ?_
            refine va_get (D := D) (ci := 0) (v := .ref (a 1)) (C := R_C) (T := F_C) (N := 13) hx hb hts (iK iW_C) hown hK hP 0 rfl rfl 1 (by decide) (hts _ (kM kw_47d73e1c)) (fun _ h9 => h9) rfl d_C_shelf_73 ?_
            refine lv_iload_n hx hb d_C_shelf_76 rfl (lv_at hl 1 rfl) ?_
            obtain ⟨h_9, hw⟩ := hw
            refine va_iald hx hb hK hP 1 0 rfl rfl h_9 d_C_shelf_77 ?_
            refine lv_aload_n hx hb d_C_shelf_78 rfl (lv_at hl 0 rfl) ?_
            refine va_get (D := D) (ci := 0) (v := .int places) (C := R_C) (T := F_C) (N := 13) hx hb hts (iK iW_C) hown hK hP 0 rfl rfl 0 (by decide) (hts _ (kM kw_e5f6e787)) (fun _ h9 => h9) rfl d_C_shelf_79 ?_
            have hPc := hP.sub (ws' := []) [] rfl
            have hDc := hD.sub (ws' := []) [] (by decide) rfl
            have hFc := va_free (wc := []) hD hS hA [] rfl
            refine vp_callSi (W.runS (As := [.int front, .int (placeOf (x1).toNatClampNeg), .int places]) (rest := []) ⟨hx, hb, hml, hown, hts⟩ (c_C_distance hw) (cwS 3 hts (gS k_C_distance kw_0b661e38 kw_f26d23c4 kw_91859716) rfl rfl rfl (by decide +kernel) ⟨(Nat.le_of_ble_eq_true rfl), (Nat.le_of_ble_eq_true rfl)⟩) ⟨kP.blind, kP.of hK hPc hDc hZ hS hFc⟩ rfl rfl hl.1 rfl (lv_room (Nat.le_of_ble_eq_true rfl)) d_C_shelf_82 ⟨(Nat.le_of_ble_eq_true rfl), (Nat.le_of_ble_eq_true rfl)⟩) (fun r_10 hw => ?_)
            refine W.widen (k := 2) (n := 12) (Nat.le_of_ble_eq_true rfl) (Nat.le_of_ble_eq_true rfl) ?_
            refine vx_ret ?_
            exact W.iret (v := r_10) hx hb hr (fun t ht hW => ⟨⟨r_10, (), rfl, hw, by rw [ht]; exact hP, va_K.moved hW.alike hK, hD⟩, hS.F ht⟩) hS.2.2 d_C_shelf_85
          · have hw := hw.2 c_8
            rcases Classical.em (x2 = (4 : Int32)) with c_11 | c_11
            · have hw := hw.1 c_11
              refine lv_tableIn (tgt := 86) hx hb d_C_shelf_6 (by rw [c_11]; decide) (by rw [c_11]; decide) (by rw [c_11]; rfl) (by decide) ?_
              refine lv_aload_n hx hb d_C_shelf_86 rfl (lv_at hl 0 rfl) ?_
              refine lv_iload_n hx hb d_C_shelf_87 rfl (lv_at hl 1 rfl) ?_
              have hPc := hP
              have hDc := hD
              have hFc := va_free (wc := cW a cI cZ places listed front turns fetched placeOf shelfAt isBlocked shelfOf counts isOpen list ring stops fewest isExact shelves stopPlaces taken trial best) hD hS hA [0, 1, 2, 3, 4, 5, 6, 7, 8, 9, 10, 11, 12, 13] rfl
              refine vp_callSi (W.runV (As := [.int x1]) (rest := []) ⟨hx, hb, hml, hown, hts⟩ (c_C_countsOn hw) (cwV 1 hts (gV k_C_countsOn kw_23accbdb kw_f2104014 kw_37c7dc60 kw_91859716) rfl rfl rfl (by decide +kernel) ⟨(Nat.le_of_ble_eq_true rfl), (Nat.le_of_ble_eq_true rfl)⟩) ⟨kP.blind, va_recv hK hPc (ci := 0) (q0 := 0) rfl rfl, kP.of hK hPc hDc hZ hS hFc⟩ rfl rfl hl.1 rfl (lv_room (Nat.le_of_ble_eq_true rfl)) d_C_shelf_88 ⟨(Nat.le_of_ble_eq_true rfl), (Nat.le_of_ble_eq_true rfl)⟩) (fun r_12 hw => ?_)
              refine W.widen (k := 2) (n := 12) (Nat.le_of_ble_eq_true rfl) (Nat.le_of_ble_eq_true rfl) ?_
              refine vx_ret ?_
              exact W.iret (v := r_12) hx hb hr (fun t ht hW => ⟨⟨r_12, (), rfl, hw, by rw [ht]; exact hP, va_K.moved hW.alike hK, hD⟩, hS.F ht⟩) hS.2.2 d_C_shelf_91
            · have hw := hw.2 c_11
              refine lv_tableOut (tgt := 92) hx hb d_C_shelf_6 (sw_out (n := 5) (by decide) (by decide) (fun k hk => match k, hk with | 0, _ => c_1 | 1, _ => c_3 | 2, _ => c_5 | 3, _ => c_8 | 4, _ => c_11 | k + 5, hk => absurd hk (by omega))) (by decide) ?_
              exact vx_throwS (own := R_C) (cls := "java/lang/IllegalArgumentException") (names := exN) hx hb hl9 hown (by decide +kernel) (by decide +kernel) (hts _ (kM kw_bedd2d32)) (hts _ (kM kw_ed8d893e)) (hZ.s 17 rfl) (ta_C_IllegalArgumentException (fun w h => hts w (kM h)) hZ) tg_C_IllegalArgumentException hZ.u hZ.n hS (hl.1.trans hml.symm) d_C_shelf_92 d_C_shelf_95 d_C_shelf_96 d_C_shelf_98 d_C_shelf_101 (fun x hx => (hEx x hx).elim) (Nat.le_of_ble_eq_true rfl) (Nat.le_of_ble_eq_true rfl) (Nat.le_of_ble_eq_true rfl) (Nat.le_of_ble_eq_true rfl) hlocks (fun t ha hsz hk => ⟨"java/lang/IllegalArgumentException", hw, ⟨rfl, hP.kept (fun k q hq => hk q.1 (hP k q hq).lt), va_K.moved ha hK, hD⟩, Nat.le_trans hS.1 hsz, fun q h1 h2 => (hk q (Nat.lt_of_lt_of_le h1 hS.1)).trans (hS.2.1 q h1 h2)⟩) hS.2.2 (Nat.le_of_ble_eq_true rfl) (Nat.le_of_ble_eq_true rfl)
