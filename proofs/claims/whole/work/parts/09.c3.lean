def p_C_want (x1 : Int32) (places : Int32) (listed : Int32) (isBlocked : Nat → Int32) (shelfOf : Nat → Int32) (list : Nat → Int32) (post : Int32 → Int32 → (Nat → Int32) → Prop) (pex : String → Int32 → (Nat → Int32) → Prop) : Prop := (p_C_needUnit x1 ((p_C_canBeFetched x1 places isBlocked shelfOf (fun r_1 => ((¬ r_1 = 0 → (p_C_isListed x1 listed list (fun r_3 => ((r_3 = 0 → ((listed < (8 : Int32) → (vp_in listed 8 ∧ post (listed + (1 : Int32)) (listed + (1 : Int32)) (upd list (listed).toNatClampNeg x1))) ∧ (¬ listed < (8 : Int32) → pex "java/lang/UnsupportedOperationException" listed list))) ∧ (¬ r_3 = 0 → pex "java/lang/IllegalStateException" listed list))))) ∧ (r_1 = 0 → pex "java/lang/IllegalStateException" listed list))))) (fun E_7 => pex E_7 listed list))
abbrev rm_C_want : Room := { frames := 7, cells := 4, slots := 24, locals := 120 }
set_option maxHeartbeats 4000000 in
set_option maxRecDepth 100000 in
theorem c_C_want {l : Launch} (hl9 : l.stackTraces = false) {D : va_G} {sa : Nat → Nat} {cI cZ : ClassId} {sz : Nat} {a : Nat → Nat} {places : Int32} {listed : Int32} {front : Int32} {turns : Int32} {fetched : Int32} {placeOf : Nat → Int32} {shelfAt : Nat → Int32} {isBlocked : Nat → Int32} {shelfOf : Nat → Int32} {counts : Nat → Int32} {isOpen : Nat → Int32} {list : Nat → Int32} {ring : Int32} {stops : Int32} {fewest : Int32} {isExact : Int32} {shelves : Nat → Int32} {stopPlaces : Nat → Int32} {taken : Nat → Int32} {trial : Nat → Int32} {best : Nat → Int32} {x1 : Int32} {post : Int32 → Int32 → (Nat → Int32) → Prop} {pex : String → Int32 → (Nat → Int32) → Prop} (hw : p_C_want x1 places listed isBlocked shelfOf list post pex) : vx_Met l y_C_want w_C_want rm_C_want (va_Pc [.ref (a 0), .int x1] (kP D sa [(cI, .int), (cZ, .boolean)] (cW a cI cZ places listed front turns fetched placeOf shelfAt isBlocked shelfOf counts isOpen list ring stops fewest isExact shelves stopPlaces taken trial best) sz)) (va_Qi (fun r (u : Int32 × (Nat → Int32)) => post r u.1 u.2) (fun (u : Int32 × (Nat → Int32)) t => va_P D classes (cW a cI cZ places u.1 front turns fetched placeOf shelfAt isBlocked shelfOf counts isOpen u.2 ring stops fewest isExact shelves stopPlaces taken trial best) t.heap ∧ va_K D classes [(cI, .int), (cZ, .boolean)] t ∧ va_D (va_A (cW a cI cZ places listed front turns fetched placeOf shelfAt isBlocked shelfOf counts isOpen list ring stops fewest isExact shelves stopPlaces taken trial best) sz) (cW a cI cZ places u.1 front turns fetched placeOf shelfAt isBlocked shelfOf counts isOpen u.2 ring stops fewest isExact shelves stopPlaces taken trial best)) (va_A (cW a cI cZ places listed front turns fetched placeOf shelfAt isBlocked shelfOf counts isOpen list ring stops fewest isExact shelves stopPlaces taken trial best) sz)) (vx_X (fun (u : String × Int32 × (Nat → Int32)) => pex u.1 u.2.1 u.2.2) (fun E (u : String × Int32 × (Nat → Int32)) t => u.1 = E ∧ va_P D classes (cW a cI cZ places u.2.1 front turns fetched placeOf shelfAt isBlocked shelfOf counts isOpen u.2.2 ring stops fewest isExact shelves stopPlaces taken trial best) t.heap ∧ va_K D classes [(cI, .int), (cZ, .boolean)] t ∧ va_D (va_A (cW a cI cZ places listed front turns fetched placeOf shelfAt isBlocked shelfOf counts isOpen list ring stops fewest isExact shelves stopPlaces taken trial best) sz) (cW a cI cZ places u.2.1 front turns fetched placeOf shelfAt isBlocked shelfOf counts isOpen u.2.2 ring stops fewest isExact shelves stopPlaces taken trial best)) (va_A (cW a cI cZ places listed front turns fetched placeOf shelfAt isBlocked shelfOf counts isOpen list ring stops fewest isExact shelves stopPlaces taken trial best) sz)) 4 24 (va_A (cW a cI cZ places listed front turns fetched placeOf shelfAt isBlocked shelfOf counts isOpen list ring stops fewest isExact shelves stopPlaces taken trial best) sz) := by
  refine vx_ofW (cc := b_C_want) (maxL := 2) (ret := (some .int)) (by decide) rfl ?_
  intro p e s m args below meth c s₁ B hml hEx hv
  obtain ⟨rfl, hsz, hP, hK, hD0, hZ⟩ := hv
  have hx := B.exec
  have hb := B.bytes
  have hr := B.returns
  have hts := atoms_spec (ws := w_C_want) B.pre
  have hown : s.vm.findClass R_C = some m.cls := findClass_of_methodNamed B.named
  have hlocks := B.notSynchronized
  subst hsz
  have hD := hD0.self (sz := s.heap.size)
  generalize hAe : (va_A (cW a cI cZ places listed front turns fetched placeOf shelfAt isBlocked shelfOf counts isOpen list ring stops fewest isExact shelves stopPlaces taken trial best) s.heap.size) = A at hD hZ ⊢
  have hA : ∀ q : Nat, s.heap.size ≤ q → A q := fun q h => by rw [← hAe]; exact Or.inr h
  have hS : va_S A s.heap s.heap [] := va_S.rf
  have hl := lv_entry ([.ref (a 0), .int x1]) (n := 2) (Nat.le_of_ble_eq_true rfl)
  rw [lg_entry_eq]
  generalize (lg_sl ([.ref (a 0), .int x1]) ++ List.replicate (2 - (lg_sl ([.ref (a 0), .int x1])).length) Slot.unset).toArray = ls at hl ⊢
  have hl : lv_has ls 2 [(0, .ref (a 0)), (1, .int x1)] := hl
  refine lv_iload_n hx hb d_C_want_0 rfl (lv_at hl 1 rfl) ?_
  have hPc := hP.sub (ws' := []) [] rfl
  have hDc := hD.sub (ws' := []) [] (by decide) rfl
  have hFc := va_free (wc := []) hD hS hA [] rfl
  refine vx_callv (vx_runS (As := [.int x1]) (rest := []) ⟨hx, hb, hml, hown, hts⟩ (c_C_needUnit hl9 hw) (cwS 1 hts (gS k_C_needUnit kw_1da68db5 kw_44579350 kw_91859716) rfl rfl rfl (by decide +kernel) ⟨(Nat.le_of_ble_eq_true rfl), (Nat.le_of_ble_eq_true rfl)⟩) ⟨kP.blind, kP.of hK hPc hDc hZ hS hFc⟩ rfl rfl hl.1 rfl (lv_room (Nat.le_of_ble_eq_true rfl)) d_C_want_1 ⟨(Nat.le_of_ble_eq_true rfl), (Nat.le_of_ble_eq_true rfl)⟩) hS (fun q _ h => hFc q h) hFc (fun q _ h => hFc q h) (fun E9 ce q9 u t H1 locs ht hvm hw hB hz1 hk1 hS hce hcv hcl => ?_) (fun u t H1 locs ht hvm hw hB hz1 hk1 hS => ?_)
  · obtain ⟨E_7, rfl⟩ : ∃ z, z = u := ⟨_, rfl⟩
    obtain ⟨hE9, hP1, hK1, hD1⟩ := hB
    try dsimp only at hw hP1 hD1 hE9
    subst hE9
    rw [ht] at hP1
    have hK1 := va_K.moved hvm.symm hK1
    obtain ⟨hP, hD⟩ := va_join (wr := cW a cI cZ places listed front turns fetched placeOf shelfAt isBlocked shelfOf counts isOpen list ring stops fewest isExact shelves stopPlaces taken trial best) (w1 := []) hP hD [] [0, 1, 2, 3, 4, 5, 6, 7, 8, 9, 10, 11, 12, 13] rfl rfl (by decide) (by decide) hk1 hFc hP1 hD1
    generalize H1 = H at hP hS hce ⊢
    have hP : va_P D classes (cW a cI cZ places listed front turns fetched placeOf shelfAt isBlocked shelfOf counts isOpen list ring stops fewest isExact shelves stopPlaces taken trial best) H := hP
    have hD : va_D A (cW a cI cZ places listed front turns fetched placeOf shelfAt isBlocked shelfOf counts isOpen list ring stops fewest isExact shelves stopPlaces taken trial best) := hD
    exact vx_out (fun x hx => (hEx x hx).elim) hlocks hce hcv hcl (fun t9 h9 ha => ⟨(E_7, listed, list), hw, ⟨rfl, by rw [h9]; exact hP, va_K.moved ha hK, hD⟩, hS.F h9⟩) hS.2.2 (Nat.le_of_ble_eq_true rfl) (Nat.le_of_ble_eq_true rfl)
  · obtain ⟨⟩ := u
    obtain ⟨hP1, hK1, hD1⟩ := hB
    try dsimp only at hw hP1 hD1
    rw [ht] at hP1
    have hK1 := va_K.moved hvm.symm hK1
    obtain ⟨hP, hD⟩ := va_join (wr := cW a cI cZ places listed front turns fetched placeOf shelfAt isBlocked shelfOf counts isOpen list ring stops fewest isExact shelves stopPlaces taken trial best) (w1 := []) hP hD [] [0, 1, 2, 3, 4, 5, 6, 7, 8, 9, 10, 11, 12, 13] rfl rfl (by decide) (by decide) hk1 hFc hP1 hD1
    generalize H1 = H at hP hS ⊢
    have hP : va_P D classes (cW a cI cZ places listed front turns fetched placeOf shelfAt isBlocked shelfOf counts isOpen list ring stops fewest isExact shelves stopPlaces taken trial best) H := hP
    have hD : va_D A (cW a cI cZ places listed front turns fetched placeOf shelfAt isBlocked shelfOf counts isOpen list ring stops fewest isExact shelves stopPlaces taken trial best) := hD
    refine lv_aload_n hx hb d_C_want_4 rfl (lv_at hl 0 rfl) ?_
    refine lv_iload_n hx hb d_C_want_5 rfl (lv_at hl 1 rfl) ?_
    have hPc := hP
    have hDc := hD
    have hFc := va_free (wc := cW a cI cZ places listed front turns fetched placeOf shelfAt isBlocked shelfOf counts isOpen list ring stops fewest isExact shelves stopPlaces taken trial best) hD hS hA [0, 1, 2, 3, 4, 5, 6, 7, 8, 9, 10, 11, 12, 13] rfl
    refine vp_callSi (W.runV (As := [.int x1]) (rest := []) ⟨hx, hb, hml, hown, hts⟩ (c_C_canBeFetched hw) (cwV 1 hts (gV k_C_canBeFetched kw_ecaa8e97 kw_46d4190f kw_cc11171f kw_91859716) rfl rfl rfl (by decide +kernel) ⟨(Nat.le_of_ble_eq_true rfl), (Nat.le_of_ble_eq_true rfl)⟩) ⟨kP.blind, va_recv hK hPc (ci := 0) (q0 := 0) rfl rfl, kP.of hK hPc hDc hZ hS hFc⟩ rfl rfl hl.1 rfl (lv_room (Nat.le_of_ble_eq_true rfl)) d_C_want_6 ⟨(Nat.le_of_ble_eq_true rfl), (Nat.le_of_ble_eq_true rfl)⟩) (fun r_1 hw => ?_)
    refine lv_if_ne (tgt := 22) hx hb d_C_want_9 (by decide) (fun c_2 => ?_) (fun c_2 => ?_)
    · have hw := hw.1 c_2
      refine lv_aload_n hx hb d_C_want_22 rfl (lv_at hl 0 rfl) ?_
      refine lv_iload_n hx hb d_C_want_23 rfl (lv_at hl 1 rfl) ?_
      have hPc := hP
      have hDc := hD
      have hFc := va_free (wc := cW a cI cZ places listed front turns fetched placeOf shelfAt isBlocked shelfOf counts isOpen list ring stops fewest isExact shelves stopPlaces taken trial best) hD hS hA [0, 1, 2, 3, 4, 5, 6, 7, 8, 9, 10, 11, 12, 13] rfl
      refine vp_callSi (W.runV (As := [.int x1]) (rest := []) ⟨hx, hb, hml, hown, hts⟩ (c_C_isListed hw) (cwV 1 hts (gV k_C_isListed kw_77318b93 kw_74eed08a kw_cfe1f2c3 kw_91859716) rfl rfl rfl (by decide +kernel) ⟨(Nat.le_of_ble_eq_true rfl), (Nat.le_of_ble_eq_true rfl)⟩) ⟨kP.blind, va_recv hK hPc (ci := 0) (q0 := 0) rfl rfl, kP.of hK hPc hDc hZ hS hFc⟩ rfl rfl hl.1 rfl (lv_room (Nat.le_of_ble_eq_true rfl)) d_C_want_24 ⟨(Nat.le_of_ble_eq_true rfl), (Nat.le_of_ble_eq_true rfl)⟩) (fun r_3 hw => ?_)
      refine lv_if_eq (tgt := 40) hx hb d_C_want_27 (by decide) (fun c_4 => ?_) (fun c_4 => ?_)
      · have hw := hw.1 c_4
        refine lv_aload_n hx hb d_C_want_40 rfl (lv_at hl 0 rfl) ?_
        refine va_get (D := D) (ci := 0) (v := .int listed) (C := R_C) (T := F_C) (N := 13) hx hb hts (iK iW_C) hown hK hP 0 rfl rfl 9 (by decide) (hts _ (kM kw_f614f36e)) (fun _ h9 => h9) rfl d_C_want_41 ?_
        refine lv_bipush (v := (8 : Int32)) hx hb d_C_want_44 (by decide) ?_
        refine lv_icmp_lt (tgt := 59) hx hb d_C_want_46 (by decide) (fun c_5 => ?_) (fun c_5 => ?_)
        · have hw := hw.1 c_5
          refine lv_aload_n hx hb d_C_want_59 rfl (lv_at hl 0 rfl) ?_
          refine va_get (D := D) (ci := 0) (v := .ref (a 7)) (C := R_C) (T := F_C) (N := 13) hx hb hts (iK iW_C) hown hK hP 0 rfl rfl 7 (by decide) (hts _ (kM kw_01782700)) (fun _ h9 => h9) rfl d_C_want_60 ?_
          refine lv_aload_n hx hb d_C_want_63 rfl (lv_at hl 0 rfl) ?_
          refine va_get (D := D) (ci := 0) (v := .int listed) (C := R_C) (T := F_C) (N := 13) hx hb hts (iK iW_C) hown hK hP 0 rfl rfl 9 (by decide) (hts _ (kM kw_f614f36e)) (fun _ h9 => h9) rfl d_C_want_64 ?_
          refine lv_iload_n hx hb d_C_want_67 rfl (lv_at hl 1 rfl) ?_
          obtain ⟨h_6, hw⟩ := hw
          refine va_iast hx hb hK hP hD hS 7 0 rfl rfl h_6 d_C_want_68 (fun H locs hP hD hS => ?_)
          have hP : va_P D classes (cW a cI cZ places listed front turns fetched placeOf shelfAt isBlocked shelfOf counts isOpen (upd list (listed).toNatClampNeg x1) ring stops fewest isExact shelves stopPlaces taken trial best) H := hP
          have hD : va_D A (cW a cI cZ places listed front turns fetched placeOf shelfAt isBlocked shelfOf counts isOpen (upd list (listed).toNatClampNeg x1) ring stops fewest isExact shelves stopPlaces taken trial best) := hD
          refine lv_aload_n hx hb d_C_want_69 rfl (lv_at hl 0 rfl) ?_
          refine lv_dup hx hb d_C_want_70 rfl ?_
          refine va_get (D := D) (ci := 0) (v := .int listed) (C := R_C) (T := F_C) (N := 13) hx hb hts (iK iW_C) hown hK hP 0 rfl rfl 9 (by decide) (hts _ (kM kw_f614f36e)) (fun _ h9 => h9) rfl d_C_want_71 ?_
          refine lv_iconst (v := (1 : Int32)) hx hb d_C_want_74 (by decide) ?_
          refine lv_iadd hx hb d_C_want_75 ?_
          refine va_put (D := D) (ci := 0) (v := .int (listed + (1 : Int32))) (ty := .int) (C := R_C) (T := F_C) (N := 13) hx hb hts (iK iW_C) t_C t_C_ok n_C hown hK hP hD hS 0 rfl rfl 9 (by decide) (hts _ (kM kw_f614f36e)) (fun _ h9 => h9) rfl (by decide +kernel) rfl rfl (Nat.le_of_ble_eq_true rfl) d_C_want_76 (fun H locs hP hD hS => ?_)
          have hP : va_P D classes (cW a cI cZ places (listed + (1 : Int32)) front turns fetched placeOf shelfAt isBlocked shelfOf counts isOpen (upd list (listed).toNatClampNeg x1) ring stops fewest isExact shelves stopPlaces taken trial best) H := hP
          have hD : va_D A (cW a cI cZ places (listed + (1 : Int32)) front turns fetched placeOf shelfAt isBlocked shelfOf counts isOpen (upd list (listed).toNatClampNeg x1) ring stops fewest isExact shelves stopPlaces taken trial best) := hD
          refine lv_aload_n hx hb d_C_want_79 rfl (lv_at hl 0 rfl) ?_
          refine va_get (D := D) (ci := 0) (v := .int (listed + (1 : Int32))) (C := R_C) (T := F_C) (N := 13) hx hb hts (iK iW_C) hown hK hP 0 rfl rfl 9 (by decide) (hts _ (kM kw_f614f36e)) (fun _ h9 => h9) rfl d_C_want_80 ?_
          refine W.widen (k := 4) (n := 24) (Nat.le_of_ble_eq_true rfl) (Nat.le_of_ble_eq_true rfl) ?_
          refine vx_ret ?_
          exact W.iret (v := (listed + (1 : Int32))) hx hb hr (fun t ht hW => ⟨⟨(listed + (1 : Int32)), ((listed + (1 : Int32)), (upd list (listed).toNatClampNeg x1)), rfl, hw, by rw [ht]; exact hP, va_K.moved hW.alike hK, hD⟩, hS.F ht⟩) hS.2.2 d_C_want_83
        · have hw := hw.2 c_5
          exact vx_throwS (own := R_C) (cls := "java/lang/UnsupportedOperationException") (names := exN) hx hb hl9 hown (by decide +kernel) (by decide +kernel) (hts _ (kM kw_86e82813)) (hts _ (kM kw_a11b00ad)) (hZ.s 7 rfl) (ta_C_UnsupportedOperationException (fun w h => hts w (kM h)) hZ) tg_C_UnsupportedOperationException hZ.u hZ.n hS (hl.1.trans hml.symm) d_C_want_49 d_C_want_52 d_C_want_53 d_C_want_55 d_C_want_58 (fun x hx => (hEx x hx).elim) (Nat.le_of_ble_eq_true rfl) (Nat.le_of_ble_eq_true rfl) (Nat.le_of_ble_eq_true rfl) (Nat.le_of_ble_eq_true rfl) hlocks (fun t ha hsz hk => ⟨("java/lang/UnsupportedOperationException", listed, list), hw, ⟨rfl, hP.kept (fun k q hq => hk q.1 (hP k q hq).lt), va_K.moved ha hK, hD⟩, Nat.le_trans hS.1 hsz, fun q h1 h2 => (hk q (Nat.lt_of_lt_of_le h1 hS.1)).trans (hS.2.1 q h1 h2)⟩) hS.2.2 (Nat.le_of_ble_eq_true rfl) (Nat.le_of_ble_eq_true rfl)
      · have hw := hw.2 c_4
        exact vx_throwS (own := R_C) (cls := "java/lang/IllegalStateException") (names := exN) hx hb hl9 hown (by decide +kernel) (by decide +kernel) (hts _ (kM kw_fc879798)) (hts _ (kM kw_f529d838)) (hZ.s 8 rfl) (ta_C_IllegalStateException (fun w h => hts w (kM h)) hZ) tg_C_IllegalStateException hZ.u hZ.n hS (hl.1.trans hml.symm) d_C_want_30 d_C_want_33 d_C_want_34 d_C_want_36 d_C_want_39 (fun x hx => (hEx x hx).elim) (Nat.le_of_ble_eq_true rfl) (Nat.le_of_ble_eq_true rfl) (Nat.le_of_ble_eq_true rfl) (Nat.le_of_ble_eq_true rfl) hlocks (fun t ha hsz hk => ⟨("java/lang/IllegalStateException", listed, list), hw, ⟨rfl, hP.kept (fun k q hq => hk q.1 (hP k q hq).lt), va_K.moved ha hK, hD⟩, Nat.le_trans hS.1 hsz, fun q h1 h2 => (hk q (Nat.lt_of_lt_of_le h1 hS.1)).trans (hS.2.1 q h1 h2)⟩) hS.2.2 (Nat.le_of_ble_eq_true rfl) (Nat.le_of_ble_eq_true rfl)
    · have hw := hw.2 c_2
      exact vx_throwS (own := R_C) (cls := "java/lang/IllegalStateException") (names := exN) hx hb hl9 hown (by decide +kernel) (by decide +kernel) (hts _ (kM kw_fc879798)) (hts _ (kM kw_f529d838)) (hZ.s 9 rfl) (ta_C_IllegalStateException (fun w h => hts w (kM h)) hZ) tg_C_IllegalStateException hZ.u hZ.n hS (hl.1.trans hml.symm) d_C_want_12 d_C_want_15 d_C_want_16 d_C_want_18 d_C_want_21 (fun x hx => (hEx x hx).elim) (Nat.le_of_ble_eq_true rfl) (Nat.le_of_ble_eq_true rfl) (Nat.le_of_ble_eq_true rfl) (Nat.le_of_ble_eq_true rfl) hlocks (fun t ha hsz hk => ⟨("java/lang/IllegalStateException", listed, list), hw, ⟨rfl, hP.kept (fun k q hq => hk q.1 (hP k q hq).lt), va_K.moved ha hK, hD⟩, Nat.le_trans hS.1 hsz, fun q h1 h2 => (hk q (Nat.lt_of_lt_of_le h1 hS.1)).trans (hS.2.1 q h1 h2)⟩) hS.2.2 (Nat.le_of_ble_eq_true rfl) (Nat.le_of_ble_eq_true rfl)
def p_P_forget (post : Int32 → Int32 → Prop) : Prop := post (0 : Int32) (0 : Int32)
abbrev rm_P_forget : Room := { frames := 1, cells := 0, slots := 0, locals := 40 }
set_option maxHeartbeats 4000000 in
set_option maxRecDepth 100000 in
theorem c_P_forget {l : Launch} {D : va_G} {sa : Nat → Nat} {cI cZ : ClassId} {sz : Nat} {a : Nat → Nat} {ring : Int32} {stops : Int32} {fewest : Int32} {isExact : Int32} {shelves : Nat → Int32} {stopPlaces : Nat → Int32} {taken : Nat → Int32} {trial : Nat → Int32} {best : Nat → Int32} {post : Int32 → Int32 → Prop} (hw : p_P_forget post) : Met l y_P_forget w_P_forget rm_P_forget (va_Pc [.ref (a 8)] (kP D sa [(cI, .int), (cZ, .boolean)] (pW a cI cZ ring stops fewest isExact shelves stopPlaces taken trial best) sz)) (va_Qv (fun (u : Int32 × Int32) => post u.1 u.2) (fun (u : Int32 × Int32) t => va_P D classes (pW a cI cZ ring u.1 fewest u.2 shelves stopPlaces taken trial best) t.heap ∧ va_K D classes [(cI, .int), (cZ, .boolean)] t ∧ va_D (va_A (pW a cI cZ ring stops fewest isExact shelves stopPlaces taken trial best) sz) (pW a cI cZ ring u.1 fewest u.2 shelves stopPlaces taken trial best)) (va_A (pW a cI cZ ring stops fewest isExact shelves stopPlaces taken trial best) sz)) 0 0 (va_A (pW a cI cZ ring stops fewest isExact shelves stopPlaces taken trial best) sz) := by
  refine Met.ofW (cc := b_P_forget) (maxL := 1) (ret := none) (by decide) rfl ?_
  intro p e s m args below meth c s₁ B hml hv
  obtain ⟨rfl, hsz, hP, hK, hD0, hZ⟩ := hv
  have hx := B.exec
  have hb := B.bytes
  have hr := B.returns
  have hts := atoms_spec (ws := w_P_forget) B.pre
  have hown : s.vm.findClass R_P = some m.cls := findClass_of_methodNamed B.named
  have hlocks := B.notSynchronized
  subst hsz
  have hD := hD0.self (sz := s.heap.size)
  generalize hAe : (va_A (pW a cI cZ ring stops fewest isExact shelves stopPlaces taken trial best) s.heap.size) = A at hD hZ ⊢
  have hA : ∀ q : Nat, s.heap.size ≤ q → A q := fun q h => by rw [← hAe]; exact Or.inr h
  have hS : va_S A s.heap s.heap [] := va_S.rf
  have hl := lv_entry ([.ref (a 8)]) (n := 1) (Nat.le_of_ble_eq_true rfl)
  rw [lg_entry_eq]
  generalize (lg_sl ([.ref (a 8)]) ++ List.replicate (1 - (lg_sl ([.ref (a 8)])).length) Slot.unset).toArray = ls at hl ⊢
  have hl : lv_has ls 1 [(0, .ref (a 8))] := hl
  refine lv_aload_n hx hb d_P_forget_0 rfl (lv_at hl 0 rfl) ?_
  refine lv_iconst (v := (0 : Int32)) hx hb d_P_forget_1 (by decide) ?_
  refine va_put (D := D) (ci := 1) (v := .int (0 : Int32)) (ty := .int) (C := R_P) (T := F_P) (N := 9) hx hb hts (iK iW_P) t_P t_P_ok n_P hown hK hP hD hS 0 rfl rfl 6 (by decide) (hts _ (kM kw_b8fa4191)) (fun _ h9 => h9) rfl (by decide +kernel) rfl rfl (Nat.le_of_ble_eq_true rfl) d_P_forget_2 (fun H locs hP hD hS => ?_)
  have hP : va_P D classes (pW a cI cZ ring (0 : Int32) fewest isExact shelves stopPlaces taken trial best) H := hP
  have hD : va_D A (pW a cI cZ ring (0 : Int32) fewest isExact shelves stopPlaces taken trial best) := hD
  refine lv_aload_n hx hb d_P_forget_5 rfl (lv_at hl 0 rfl) ?_
  refine lv_iconst (v := (0 : Int32)) hx hb d_P_forget_6 (by decide) ?_
  refine va_put (D := D) (ci := 1) (v := .int (0 : Int32)) (ty := .boolean) (C := R_P) (T := F_P) (N := 9) hx hb hts (iK iW_P) t_P t_P_ok n_P hown hK hP hD hS 0 rfl rfl 8 (by decide) (hts _ (kM kw_076ea5fa)) (fun _ h9 => h9) rfl (by decide +kernel) rfl rfl (Nat.le_of_ble_eq_true rfl) d_P_forget_7 (fun H locs hP hD hS => ?_)
  have hP : va_P D classes (pW a cI cZ ring (0 : Int32) fewest (0 : Int32) shelves stopPlaces taken trial best) H := hP
  have hD : va_D A (pW a cI cZ ring (0 : Int32) fewest (0 : Int32) shelves stopPlaces taken trial best) := hD
  exact W.vret hx hb hr (fun t ht hW => ⟨⟨((0 : Int32), (0 : Int32)), rfl, hw, by rw [ht]; exact hP, va_K.moved hW.alike hK, hD⟩, hS.F ht⟩) hS.2.2 d_P_forget_10
def p_C_holdsListed_L2_B (v1 : Int32) (listed : Int32) (shelfOf : Nat → Int32) (list : Nat → Int32) (post : Int32 → Prop) (K_2 : Int32 → Prop) (rec_2 : Int32 → Prop) (x2_2 : Int32) : Prop := ((listed ≤ x2_2 → K_2 x2_2) ∧ (¬ listed ≤ x2_2 → (vp_in x2_2 8 ∧ (vp_in (list (x2_2).toNatClampNeg) 20 ∧ ((¬ (shelfOf ((list (x2_2).toNatClampNeg)).toNatClampNeg) = v1 → rec_2 (x2_2 + 1)) ∧ ((shelfOf ((list (x2_2).toNatClampNeg)).toNatClampNeg) = v1 → post (1 : Int32)))))))
def p_C_holdsListed_L2 (v1 : Int32) (listed : Int32) (shelfOf : Nat → Int32) (list : Nat → Int32) (post : Int32 → Prop) (K_2 : Int32 → Prop) : Nat → Int32 → Prop
  | 0 => fun _ => False
  | n + 1 => p_C_holdsListed_L2_B v1 listed shelfOf list post K_2 (p_C_holdsListed_L2 v1 listed shelfOf list post K_2 n)
def p_C_holdsListed (x1 : Int32) (listed : Int32) (shelfOf : Nat → Int32) (list : Nat → Int32) (post : Int32 → Prop) : Prop := (∃ n, p_C_holdsListed_L2 x1 listed shelfOf list post (fun (k_10 : Int32) => post (0 : Int32)) n (0 : Int32))
abbrev rm_C_holdsListed : Room := { frames := 1, cells := 0, slots := 0, locals := 40 }
set_option maxHeartbeats 4000000 in
set_option maxRecDepth 100000 in
theorem c_C_holdsListed {l : Launch} {D : va_G} {sa : Nat → Nat} {cI cZ : ClassId} {sz : Nat} {a : Nat → Nat} {places : Int32} {listed : Int32} {front : Int32} {turns : Int32} {fetched : Int32} {placeOf : Nat → Int32} {shelfAt : Nat → Int32} {isBlocked : Nat → Int32} {shelfOf : Nat → Int32} {counts : Nat → Int32} {isOpen : Nat → Int32} {list : Nat → Int32} {ring : Int32} {stops : Int32} {fewest : Int32} {isExact : Int32} {shelves : Nat → Int32} {stopPlaces : Nat → Int32} {taken : Nat → Int32} {trial : Nat → Int32} {best : Nat → Int32} {x1 : Int32} {post : Int32 → Prop} (hw : p_C_holdsListed x1 listed shelfOf list post) : Met l y_C_holdsListed w_C_holdsListed rm_C_holdsListed (va_Pc [.ref (a 0), .int x1] (kP D sa [(cI, .int), (cZ, .boolean)] (cW a cI cZ places listed front turns fetched placeOf shelfAt isBlocked shelfOf counts isOpen list ring stops fewest isExact shelves stopPlaces taken trial best) sz)) (vp_Si post) 0 0 (fun _ => False) := by
  refine Met.ofW (cc := b_C_holdsListed) (maxL := 3) (ret := (some .boolean)) (by decide) rfl ?_
  intro p e s m args below meth c s₁ B hml hv
  obtain ⟨rfl, hsz, hP, hK, hD0, hZ⟩ := hv
  have hx := B.exec
  have hb := B.bytes
  have hr := B.returns
  have hts := atoms_spec (ws := w_C_holdsListed) B.pre
  have hown : s.vm.findClass R_C = some m.cls := findClass_of_methodNamed B.named
  have hlocks := B.notSynchronized
  subst hsz
  have hD := hD0.self (sz := s.heap.size)
  generalize hAe : (va_A (cW a cI cZ places listed front turns fetched placeOf shelfAt isBlocked shelfOf counts isOpen list ring stops fewest isExact shelves stopPlaces taken trial best) s.heap.size) = A at hD hZ
  have hA : ∀ q : Nat, s.heap.size ≤ q → A q := fun q h => by rw [← hAe]; exact Or.inr h
  have hS : va_S A s.heap s.heap [] := va_S.rf
  have hl := lv_entry ([.ref (a 0), .int x1]) (n := 3) (Nat.le_of_ble_eq_true rfl)
  rw [lg_entry_eq]
  generalize (lg_sl ([.ref (a 0), .int x1]) ++ List.replicate (3 - (lg_sl ([.ref (a 0), .int x1])).length) Slot.unset).toArray = ls at hl ⊢
  have hl : lv_has ls 3 [(0, .ref (a 0)), (1, .int x1)] := hl
  refine lv_iconst (v := (0 : Int32)) hx hb d_C_holdsListed_0 (by decide) ?_
  refine lv_istore_n (lv' := [(2, .int (0 : Int32)), (0, .ref (a 0)), (1, .int x1)]) hx hb d_C_holdsListed_1 rfl hl (by decide) rfl (fun ls hl => ?_)
  obtain ⟨K_2, hK_2⟩ : ∃ z : Int32 → Prop, z = (fun (k_10 : Int32) => post (0 : Int32)) := ⟨_, rfl⟩
  have hw : ∃ n, p_C_holdsListed_L2 x1 listed shelfOf list post K_2 n (0 : Int32) := by rw [hK_2]; exact hw
  obtain ⟨n_2, hw⟩ := hw
  have key_2 : ∀ (n : Nat) (x2_5 : Int32) (ls : Array Slot), p_C_holdsListed_L2 x1 listed shelfOf list post K_2 n x2_5 → lv_has ls 3 [(2, .int x2_5), (0, .ref (a 0)), (1, .int x1)] → W p l e (headSpec w_C_holdsListed rm_C_holdsListed).room s m ([.ref (a 0), .int x1] : List Value).toArray below meth c s.heap [] 0 0 (MQ below (vp_Si post) ([.ref (a 0), .int x1] : List Value).toArray s 0 0 (fun _ => False)) (F0 m 2 ls []) := by
    intro n
    induction n with
    | zero => intro x2_5 ls hw hl; exact hw.elim
    | succ n ih_2 =>
      intro x2_5 ls hw hl
      have hw : p_C_holdsListed_L2_B x1 listed shelfOf list post K_2 (p_C_holdsListed_L2 x1 listed shelfOf list post K_2 n) x2_5 := hw
      generalize p_C_holdsListed_L2 x1 listed shelfOf list post K_2 n = rec_2 at hw ih_2
      refine lv_iload_n hx hb d_C_holdsListed_2 rfl (lv_at hl 0 rfl) ?_
      refine lv_aload_n hx hb d_C_holdsListed_3 rfl (lv_at hl 1 rfl) ?_
      refine va_get (D := D) (ci := 0) (v := .int listed) (C := R_C) (T := F_C) (N := 13) hx hb hts (iK iW_C) hown hK hP 0 rfl rfl 9 (by decide) (hts _ (kM kw_f614f36e)) (fun _ h9 => h9) rfl d_C_holdsListed_4 ?_
      refine lv_icmp_ge (tgt := 33) hx hb d_C_holdsListed_7 (by decide) (fun c_6 => ?_) (fun c_6 => ?_)
      · have hw := hw.1 c_6
        rw [hK_2] at hw
        have hl : lv_has ls 3 [(2, .int x2_5), (0, .ref (a 0)), (1, .int x1)] := lv_sub hl [0, 1, 2] rfl
        refine lv_iconst (v := (0 : Int32)) hx hb d_C_holdsListed_33 (by decide) ?_
        exact W.zret (v := (0 : Int32)) (ty := .boolean) hx hb hr rfl (fun t ht _ => ⟨(0 : Int32), rfl, hw, ht⟩) (by simp) d_C_holdsListed_34
      · have hw := hw.2 c_6
        refine lv_aload_n hx hb d_C_holdsListed_10 rfl (lv_at hl 1 rfl) ?_
        refine va_get (D := D) (ci := 0) (v := .ref (a 4)) (C := R_C) (T := F_C) (N := 13) hx hb hts (iK iW_C) hown hK hP 0 rfl rfl 4 (by decide) (hts _ (kM kw_03cac826)) (fun _ h9 => h9) rfl d_C_holdsListed_11 ?_
        refine lv_aload_n hx hb d_C_holdsListed_14 rfl (lv_at hl 1 rfl) ?_
        refine va_get (D := D) (ci := 0) (v := .ref (a 7)) (C := R_C) (T := F_C) (N := 13) hx hb hts (iK iW_C) hown hK hP 0 rfl rfl 7 (by decide) (hts _ (kM kw_01782700)) (fun _ h9 => h9) rfl d_C_holdsListed_15 ?_
        refine lv_iload_n hx hb d_C_holdsListed_18 rfl (lv_at hl 0 rfl) ?_
        obtain ⟨h_7, hw⟩ := hw
        refine va_iald hx hb hK hP 7 0 rfl rfl h_7 d_C_holdsListed_19 ?_
        obtain ⟨h_8, hw⟩ := hw
        refine va_iald hx hb hK hP 4 0 rfl rfl h_8 d_C_holdsListed_20 ?_
        refine lv_iload_n hx hb d_C_holdsListed_21 rfl (lv_at hl 2 rfl) ?_
        refine lv_icmp_ne (tgt := 27) hx hb d_C_holdsListed_22 (by decide) (fun c_9 => ?_) (fun c_9 => ?_)
        · have hw := hw.1 c_9
          refine lv_iinc (v := (x2_5 + 1)) (lv' := [(2, .int (x2_5 + 1)), (0, .ref (a 0)), (1, .int x1)]) hx hb d_C_holdsListed_27 hl (k := 0) rfl rfl (by decide) rfl (fun ls hl => ?_)
          refine lv_goto (tgt := 2) hx hb d_C_holdsListed_30 (by decide) ?_
          exact ih_2 (x2_5 + 1) _ hw (lv_sub hl [0, 1, 2] rfl)
        · have hw := hw.2 c_9
          refine lv_iconst (v := (1 : Int32)) hx hb d_C_holdsListed_25 (by decide) ?_
          exact W.zret (v := (1 : Int32)) (ty := .boolean) hx hb hr rfl (fun t ht _ => ⟨(1 : Int32), rfl, hw, ht⟩) (by simp) d_C_holdsListed_26
  exact key_2 n_2 (0 : Int32) _ hw (lv_sub hl [0, 1, 2] rfl)
def p_P_addStop (x1 : Int32) (x2 : Int32) (stops : Int32) (shelves : Nat → Int32) (stopPlaces : Nat → Int32) (taken : Nat → Int32) (post : Int32 → (Nat → Int32) → (Nat → Int32) → (Nat → Int32) → Prop) : Prop := (((8 : Int32) ≤ stops → post stops shelves stopPlaces taken) ∧ (¬ (8 : Int32) ≤ stops → (vp_in stops 8 ∧ (vp_in stops 8 ∧ (vp_in stops 8 ∧ post (stops + (1 : Int32)) (upd shelves (stops).toNatClampNeg x1) (upd stopPlaces (stops).toNatClampNeg x2) (upd taken (stops).toNatClampNeg (vp_nar .boolean (0 : Int32))))))))
abbrev rm_P_addStop : Room := { frames := 1, cells := 0, slots := 0, locals := 40 }
set_option maxHeartbeats 4000000 in
set_option maxRecDepth 100000 in
theorem c_P_addStop {l : Launch} {D : va_G} {sa : Nat → Nat} {cI cZ : ClassId} {sz : Nat} {a : Nat → Nat} {ring : Int32} {stops : Int32} {fewest : Int32} {isExact : Int32} {shelves : Nat → Int32} {stopPlaces : Nat → Int32} {taken : Nat → Int32} {trial : Nat → Int32} {best : Nat → Int32} {x1 : Int32} {x2 : Int32} {post : Int32 → (Nat → Int32) → (Nat → Int32) → (Nat → Int32) → Prop} (hw : p_P_addStop x1 x2 stops shelves stopPlaces taken post) : Met l y_P_addStop w_P_addStop rm_P_addStop (va_Pc [.ref (a 8), .int x1, .int x2] (kP D sa [(cI, .int), (cZ, .boolean)] (pW a cI cZ ring stops fewest isExact shelves stopPlaces taken trial best) sz)) (va_Qv (fun (u : Int32 × (Nat → Int32) × (Nat → Int32) × (Nat → Int32)) => post u.1 u.2.1 u.2.2.1 u.2.2.2) (fun (u : Int32 × (Nat → Int32) × (Nat → Int32) × (Nat → Int32)) t => va_P D classes (pW a cI cZ ring u.1 fewest isExact u.2.1 u.2.2.1 u.2.2.2 trial best) t.heap ∧ va_K D classes [(cI, .int), (cZ, .boolean)] t ∧ va_D (va_A (pW a cI cZ ring stops fewest isExact shelves stopPlaces taken trial best) sz) (pW a cI cZ ring u.1 fewest isExact u.2.1 u.2.2.1 u.2.2.2 trial best)) (va_A (pW a cI cZ ring stops fewest isExact shelves stopPlaces taken trial best) sz)) 0 0 (va_A (pW a cI cZ ring stops fewest isExact shelves stopPlaces taken trial best) sz) := by
  refine Met.ofW (cc := b_P_addStop) (maxL := 3) (ret := none) (by decide) rfl ?_
  intro p e s m args below meth c s₁ B hml hv
  obtain ⟨rfl, hsz, hP, hK, hD0, hZ⟩ := hv
  have hx := B.exec
  have hb := B.bytes
  have hr := B.returns
  have hts := atoms_spec (ws := w_P_addStop) B.pre
  have hown : s.vm.findClass R_P = some m.cls := findClass_of_methodNamed B.named
  have hlocks := B.notSynchronized
  subst hsz
  have hD := hD0.self (sz := s.heap.size)
  generalize hAe : (va_A (pW a cI cZ ring stops fewest isExact shelves stopPlaces taken trial best) s.heap.size) = A at hD hZ ⊢
  have hA : ∀ q : Nat, s.heap.size ≤ q → A q := fun q h => by rw [← hAe]; exact Or.inr h
  have hS : va_S A s.heap s.heap [] := va_S.rf
  have hl := lv_entry ([.ref (a 8), .int x1, .int x2]) (n := 3) (Nat.le_of_ble_eq_true rfl)
  rw [lg_entry_eq]
  generalize (lg_sl ([.ref (a 8), .int x1, .int x2]) ++ List.replicate (3 - (lg_sl ([.ref (a 8), .int x1, .int x2])).length) Slot.unset).toArray = ls at hl ⊢
  have hl : lv_has ls 3 [(0, .ref (a 8)), (1, .int x1), (2, .int x2)] := hl
  refine lv_aload_n hx hb d_P_addStop_0 rfl (lv_at hl 0 rfl) ?_
  refine va_get (D := D) (ci := 1) (v := .int stops) (C := R_P) (T := F_P) (N := 9) hx hb hts (iK iW_P) hown hK hP 0 rfl rfl 6 (by decide) (hts _ (kM kw_b8fa4191)) (fun _ h9 => h9) rfl d_P_addStop_1 ?_
  refine lv_bipush (v := (8 : Int32)) hx hb d_P_addStop_4 (by decide) ?_
  refine lv_icmp_ge (tgt := 49) hx hb d_P_addStop_6 (by decide) (fun c_1 => ?_) (fun c_1 => ?_)
  · have hw := hw.1 c_1
    exact W.vret hx hb hr (fun t ht hW => ⟨⟨(stops, shelves, stopPlaces, taken), rfl, hw, by rw [ht]; exact hP, va_K.moved hW.alike hK, hD⟩, hS.F ht⟩) hS.2.2 d_P_addStop_49
  · have hw := hw.2 c_1
    refine lv_aload_n hx hb d_P_addStop_9 rfl (lv_at hl 0 rfl) ?_
    refine va_get (D := D) (ci := 1) (v := .ref (a 9)) (C := R_P) (T := F_P) (N := 9) hx hb hts (iK iW_P) hown hK hP 0 rfl rfl 1 (by decide) (hts _ (kM kw_504cce82)) (fun _ h9 => h9) rfl d_P_addStop_10 ?_
    refine lv_aload_n hx hb d_P_addStop_13 rfl (lv_at hl 0 rfl) ?_
    refine va_get (D := D) (ci := 1) (v := .int stops) (C := R_P) (T := F_P) (N := 9) hx hb hts (iK iW_P) hown hK hP 0 rfl rfl 6 (by decide) (hts _ (kM kw_b8fa4191)) (fun _ h9 => h9) rfl d_P_addStop_14 ?_
    refine lv_iload_n hx hb d_P_addStop_17 rfl (lv_at hl 1 rfl) ?_
    obtain ⟨h_2, hw⟩ := hw
    refine va_iast hx hb hK hP hD hS 1 0 rfl rfl h_2 d_P_addStop_18 (fun H locs hP hD hS => ?_)
    have hP : va_P D classes (pW a cI cZ ring stops fewest isExact (upd shelves (stops).toNatClampNeg x1) stopPlaces taken trial best) H := hP
    have hD : va_D A (pW a cI cZ ring stops fewest isExact (upd shelves (stops).toNatClampNeg x1) stopPlaces taken trial best) := hD
    refine lv_aload_n hx hb d_P_addStop_19 rfl (lv_at hl 0 rfl) ?_
    refine va_get (D := D) (ci := 1) (v := .ref (a 10)) (C := R_P) (T := F_P) (N := 9) hx hb hts (iK iW_P) hown hK hP 0 rfl rfl 2 (by decide) (hts _ (kM kw_ef43ea25)) (fun _ h9 => h9) rfl d_P_addStop_20 ?_
    refine lv_aload_n hx hb d_P_addStop_23 rfl (lv_at hl 0 rfl) ?_
    refine va_get (D := D) (ci := 1) (v := .int stops) (C := R_P) (T := F_P) (N := 9) hx hb hts (iK iW_P) hown hK hP 0 rfl rfl 6 (by decide) (hts _ (kM kw_b8fa4191)) (fun _ h9 => h9) rfl d_P_addStop_24 ?_
    refine lv_iload_n hx hb d_P_addStop_27 rfl (lv_at hl 2 rfl) ?_
    obtain ⟨h_3, hw⟩ := hw
    refine va_iast hx hb hK hP hD hS 2 0 rfl rfl h_3 d_P_addStop_28 (fun H locs hP hD hS => ?_)
    have hP : va_P D classes (pW a cI cZ ring stops fewest isExact (upd shelves (stops).toNatClampNeg x1) (upd stopPlaces (stops).toNatClampNeg x2) taken trial best) H := hP
    have hD : va_D A (pW a cI cZ ring stops fewest isExact (upd shelves (stops).toNatClampNeg x1) (upd stopPlaces (stops).toNatClampNeg x2) taken trial best) := hD
    refine lv_aload_n hx hb d_P_addStop_29 rfl (lv_at hl 0 rfl) ?_
    refine va_get (D := D) (ci := 1) (v := .ref (a 11)) (C := R_P) (T := F_P) (N := 9) hx hb hts (iK iW_P) hown hK hP 0 rfl rfl 3 (by decide) (hts _ (kM kw_16ad6009)) (fun _ h9 => h9) rfl d_P_addStop_30 ?_
    refine lv_aload_n hx hb d_P_addStop_33 rfl (lv_at hl 0 rfl) ?_
    refine va_get (D := D) (ci := 1) (v := .int stops) (C := R_P) (T := F_P) (N := 9) hx hb hts (iK iW_P) hown hK hP 0 rfl rfl 6 (by decide) (hts _ (kM kw_b8fa4191)) (fun _ h9 => h9) rfl d_P_addStop_34 ?_
    refine lv_iconst (v := (0 : Int32)) hx hb d_P_addStop_37 (by decide) ?_
    obtain ⟨h_4, hw⟩ := hw
    refine va_zast hx hb hK hP hD hS 3 1 rfl rfl h_4 d_P_addStop_38 (fun H locs hP hD hS => ?_)
    have hP : va_P D classes (pW a cI cZ ring stops fewest isExact (upd shelves (stops).toNatClampNeg x1) (upd stopPlaces (stops).toNatClampNeg x2) (upd taken (stops).toNatClampNeg (vp_nar .boolean (0 : Int32))) trial best) H := hP
    have hD : va_D A (pW a cI cZ ring stops fewest isExact (upd shelves (stops).toNatClampNeg x1) (upd stopPlaces (stops).toNatClampNeg x2) (upd taken (stops).toNatClampNeg (vp_nar .boolean (0 : Int32))) trial best) := hD
    refine lv_aload_n hx hb d_P_addStop_39 rfl (lv_at hl 0 rfl) ?_
    refine lv_dup hx hb d_P_addStop_40 rfl ?_
    refine va_get (D := D) (ci := 1) (v := .int stops) (C := R_P) (T := F_P) (N := 9) hx hb hts (iK iW_P) hown hK hP 0 rfl rfl 6 (by decide) (hts _ (kM kw_b8fa4191)) (fun _ h9 => h9) rfl d_P_addStop_41 ?_
    refine lv_iconst (v := (1 : Int32)) hx hb d_P_addStop_44 (by decide) ?_
    refine lv_iadd hx hb d_P_addStop_45 ?_
    refine va_put (D := D) (ci := 1) (v := .int (stops + (1 : Int32))) (ty := .int) (C := R_P) (T := F_P) (N := 9) hx hb hts (iK iW_P) t_P t_P_ok n_P hown hK hP hD hS 0 rfl rfl 6 (by decide) (hts _ (kM kw_b8fa4191)) (fun _ h9 => h9) rfl (by decide +kernel) rfl rfl (Nat.le_of_ble_eq_true rfl) d_P_addStop_46 (fun H locs hP hD hS => ?_)
    have hP : va_P D classes (pW a cI cZ ring (stops + (1 : Int32)) fewest isExact (upd shelves (stops).toNatClampNeg x1) (upd stopPlaces (stops).toNatClampNeg x2) (upd taken (stops).toNatClampNeg (vp_nar .boolean (0 : Int32))) trial best) H := hP
    have hD : va_D A (pW a cI cZ ring (stops + (1 : Int32)) fewest isExact (upd shelves (stops).toNatClampNeg x1) (upd stopPlaces (stops).toNatClampNeg x2) (upd taken (stops).toNatClampNeg (vp_nar .boolean (0 : Int32))) trial best) := hD
    exact W.vret hx hb hr (fun t ht hW => ⟨⟨((stops + (1 : Int32)), (upd shelves (stops).toNatClampNeg x1), (upd stopPlaces (stops).toNatClampNeg x2), (upd taken (stops).toNatClampNeg (vp_nar .boolean (0 : Int32)))), rfl, hw, by rw [ht]; exact hP, va_K.moved hW.alike hK, hD⟩, hS.F ht⟩) hS.2.2 d_P_addStop_49
def p_P_tryAll_L43_B (v1 : Int32) (v2 : Int32) (v3 : Int32) (ring : Int32) (stops : Int32) (isExact : Int32) (shelves : Nat → Int32) (stopPlaces : Nat → Int32) (self : Int32 → Int32 → Int32 → Int32 → Int32 → Int32 → Int32 → (Nat → Int32) → (Nat → Int32) → (Nat → Int32) → (Nat → Int32) → (Nat → Int32) → (Int32 → (Nat → Int32) → (Nat → Int32) → (Nat → Int32) → Prop) → Prop) (K_43 : Int32 → Int32 → (Nat → Int32) → (Nat → Int32) → (Nat → Int32) → Prop) (rec_43 : Int32 → Int32 → (Nat → Int32) → (Nat → Int32) → (Nat → Int32) → Prop) (x4_43 : Int32) (fewest_43 : Int32) (taken_43 : Nat → Int32) (trial_43 : Nat → Int32) (best_43 : Nat → Int32) : Prop := ((stops ≤ x4_43 → K_43 x4_43 fewest_43 taken_43 trial_43 best_43) ∧ (¬ stops ≤ x4_43 → (vp_in x4_43 8 ∧ ((¬ (taken_43 (x4_43).toNatClampNeg) = 0 → rec_43 (x4_43 + 1) fewest_43 taken_43 trial_43 best_43) ∧ ((taken_43 (x4_43).toNatClampNeg) = 0 → (vp_in x4_43 8 ∧ (vp_in v1 8 ∧ (vp_in x4_43 8 ∧ (vp_in x4_43 8 ∧ (p_C_distance v2 (stopPlaces (x4_43).toNatClampNeg) ring (fun r_10 => (self (v1 + (1 : Int32)) (stopPlaces (x4_43).toNatClampNeg) (v3 + r_10) ring stops fewest_43 isExact shelves stopPlaces (upd taken_43 (x4_43).toNatClampNeg (vp_nar .boolean (1 : Int32))) (upd trial_43 (v1).toNatClampNeg x4_43) best_43 (fun fewest_11 taken_12 trial_13 best_14 => (vp_in x4_43 8 ∧ rec_43 (x4_43 + 1) fewest_11 (upd taken_12 (x4_43).toNatClampNeg (vp_nar .boolean (0 : Int32))) trial_13 best_14))))))))))))))
def p_P_tryAll_L43 (v1 : Int32) (v2 : Int32) (v3 : Int32) (ring : Int32) (stops : Int32) (isExact : Int32) (shelves : Nat → Int32) (stopPlaces : Nat → Int32) (self : Int32 → Int32 → Int32 → Int32 → Int32 → Int32 → Int32 → (Nat → Int32) → (Nat → Int32) → (Nat → Int32) → (Nat → Int32) → (Nat → Int32) → (Int32 → (Nat → Int32) → (Nat → Int32) → (Nat → Int32) → Prop) → Prop) (K_43 : Int32 → Int32 → (Nat → Int32) → (Nat → Int32) → (Nat → Int32) → Prop) : Nat → Int32 → Int32 → (Nat → Int32) → (Nat → Int32) → (Nat → Int32) → Prop
  | 0 => fun _ _ _ _ _ => False
  | n + 1 => p_P_tryAll_L43_B v1 v2 v3 ring stops isExact shelves stopPlaces self K_43 (p_P_tryAll_L43 v1 v2 v3 ring stops isExact shelves stopPlaces self K_43 n)
def q_P_tryAll (self : Int32 → Int32 → Int32 → Int32 → Int32 → Int32 → Int32 → (Nat → Int32) → (Nat → Int32) → (Nat → Int32) → (Nat → Int32) → (Nat → Int32) → (Int32 → (Nat → Int32) → (Nat → Int32) → (Nat → Int32) → Prop) → Prop) (x1 : Int32) (x2 : Int32) (x3 : Int32) (ring : Int32) (stops : Int32) (fewest : Int32) (isExact : Int32) (shelves : Nat → Int32) (stopPlaces : Nat → Int32) (taken : Nat → Int32) (trial : Nat → Int32) (best : Nat → Int32) (post : Int32 → (Nat → Int32) → (Nat → Int32) → (Nat → Int32) → Prop) : Prop := ((x3 < fewest → ((x1 < stops → (∃ n, p_P_tryAll_L43 x1 x2 x3 ring stops isExact shelves stopPlaces self (fun (k_34 : Int32) (k_35 : Int32) (k_36 : Nat → Int32) (k_37 : Nat → Int32) (k_38 : Nat → Int32) => post k_35 k_36 k_37 k_38) n (0 : Int32) fewest taken trial best)) ∧ (¬ x1 < stops → (¬ (0 : Int32) < 0 ∧ ¬ (0 : Int32) < 0 ∧ ¬ stops < 0 ∧ ((0 : Int32)).toNatClampNeg + (stops).toNatClampNeg ≤ 8 ∧ ((0 : Int32)).toNatClampNeg + (stops).toNatClampNeg ≤ 8 ∧ post x3 taken trial (va_cpy trial best ((0 : Int32)).toNatClampNeg ((0 : Int32)).toNatClampNeg (stops).toNatClampNeg))))) ∧ (¬ x3 < fewest → post fewest taken trial best))
def p_P_tryAll : Nat → Int32 → Int32 → Int32 → Int32 → Int32 → Int32 → Int32 → (Nat → Int32) → (Nat → Int32) → (Nat → Int32) → (Nat → Int32) → (Nat → Int32) → (Int32 → (Nat → Int32) → (Nat → Int32) → (Nat → Int32) → Prop) → Prop
  | 0 => fun _ _ _ _ _ _ _ _ _ _ _ _ _  => False
  | n + 1 => q_P_tryAll (p_P_tryAll n)
abbrev rm_P_tryAll (d : Nat) : Room := { frames := 2 + d, cells := 0, slots := 0, locals := 63 + d * 40 }
set_option maxHeartbeats 4000000 in
set_option maxRecDepth 100000 in
theorem c_P_tryAll {l : Launch} {D : va_G} {sa : Nat → Nat} {cI cZ : ClassId} {a : Nat → Nat} : ∀ (d9 : Nat) {sz : Nat} {ring : Int32} {stops : Int32} {fewest : Int32} {isExact : Int32} {shelves : Nat → Int32} {stopPlaces : Nat → Int32} {taken : Nat → Int32} {trial : Nat → Int32} {best : Nat → Int32} {x1 : Int32} {x2 : Int32} {x3 : Int32} {post : Int32 → (Nat → Int32) → (Nat → Int32) → (Nat → Int32) → Prop}, p_P_tryAll d9 x1 x2 x3 ring stops fewest isExact shelves stopPlaces taken trial best post → Met l y_P_tryAll w_P_tryAll (rm_P_tryAll d9) (va_Pc [.ref (a 8), .int x1, .int x2, .int x3] (kP D sa [(cI, .int), (cZ, .boolean)] (pW a cI cZ ring stops fewest isExact shelves stopPlaces taken trial best) sz)) (va_Qv (fun (u : Int32 × (Nat → Int32) × (Nat → Int32) × (Nat → Int32)) => post u.1 u.2.1 u.2.2.1 u.2.2.2) (fun (u : Int32 × (Nat → Int32) × (Nat → Int32) × (Nat → Int32)) t => va_P D classes (pW a cI cZ ring stops u.1 isExact shelves stopPlaces u.2.1 u.2.2.1 u.2.2.2) t.heap ∧ va_K D classes [(cI, .int), (cZ, .boolean)] t ∧ va_D (va_A (pW a cI cZ ring stops fewest isExact shelves stopPlaces taken trial best) sz) (pW a cI cZ ring stops u.1 isExact shelves stopPlaces u.2.1 u.2.2.1 u.2.2.2)) (va_A (pW a cI cZ ring stops fewest isExact shelves stopPlaces taken trial best) sz)) 0 0 (va_A (pW a cI cZ ring stops fewest isExact shelves stopPlaces taken trial best) sz) := by
  intro d9
  induction d9 with
  | zero => intro sz ring stops fewest isExact shelves stopPlaces taken trial best x1 x2 x3 post hw; exact hw.elim
  | succ d9 ihd =>
    intro sz ring stops fewest isExact shelves stopPlaces taken trial best x1 x2 x3 post hw
    have hw : q_P_tryAll (p_P_tryAll d9) x1 x2 x3 ring stops fewest isExact shelves stopPlaces taken trial best post := hw
    refine Met.ofW (cc := b_P_tryAll) (maxL := 5) (ret := none) (by decide) rfl ?_
    intro p e s m args below meth c s₁ B hml hv
    obtain ⟨rfl, hsz, hP, hK, hD0, hZ⟩ := hv
    have hx := B.exec
    have hb := B.bytes
    have hr := B.returns
    have hts := atoms_spec (ws := w_P_tryAll) B.pre
    have hown : s.vm.findClass R_P = some m.cls := findClass_of_methodNamed B.named
    have hlocks := B.notSynchronized
    subst hsz
    have hD := hD0.self (sz := s.heap.size)
    generalize hAe : (va_A (pW a cI cZ ring stops fewest isExact shelves stopPlaces taken trial best) s.heap.size) = A at hD hZ ⊢
    have hA : ∀ q : Nat, s.heap.size ≤ q → A q := fun q h => by rw [← hAe]; exact Or.inr h
    have hS : va_S A s.heap s.heap [] := va_S.rf
    have hl := lv_entry ([.ref (a 8), .int x1, .int x2, .int x3]) (n := 5) (Nat.le_of_ble_eq_true rfl)
    rw [lg_entry_eq]
    generalize (lg_sl ([.ref (a 8), .int x1, .int x2, .int x3]) ++ List.replicate (5 - (lg_sl ([.ref (a 8), .int x1, .int x2, .int x3])).length) Slot.unset).toArray = ls at hl ⊢
    have hl : lv_has ls 5 [(0, .ref (a 8)), (1, .int x1), (2, .int x2), (3, .int x3)] := hl
    refine lv_iload_n hx hb d_P_tryAll_0 rfl (lv_at hl 3 rfl) ?_
    refine lv_aload_n hx hb d_P_tryAll_1 rfl (lv_at hl 0 rfl) ?_
    refine va_get (D := D) (ci := 1) (v := .int fewest) (C := R_P) (T := F_P) (N := 9) hx hb hts (iK iW_P) hown hK hP 0 rfl rfl 7 (by decide) (hts _ (kM kw_a1bcfc1f)) (fun _ h9 => h9) rfl d_P_tryAll_2 ?_
    refine lv_icmp_lt (tgt := 9) hx hb d_P_tryAll_5 (by decide) (fun c_1 => ?_) (fun c_1 => ?_)
    · have hw := hw.1 c_1
      refine lv_iload_n hx hb d_P_tryAll_9 rfl (lv_at hl 1 rfl) ?_
      refine lv_aload_n hx hb d_P_tryAll_10 rfl (lv_at hl 0 rfl) ?_
      refine va_get (D := D) (ci := 1) (v := .int stops) (C := R_P) (T := F_P) (N := 9) hx hb hts (iK iW_P) hown hK hP 0 rfl rfl 6 (by decide) (hts _ (kM kw_b8fa4191)) (fun _ h9 => h9) rfl d_P_tryAll_11 ?_
      refine lv_icmp_lt (tgt := 40) hx hb d_P_tryAll_14 (by decide) (fun c_2 => ?_) (fun c_2 => ?_)
      · have hw := hw.1 c_2
        refine lv_iconst (v := (0 : Int32)) hx hb d_P_tryAll_40 (by decide) ?_
        refine lv_istore (lv' := [(4, .int (0 : Int32)), (0, .ref (a 8)), (1, .int x1), (2, .int x2), (3, .int x3)]) hx hb d_P_tryAll_41 hl (by decide) rfl (fun ls hl => ?_)
        obtain ⟨K_43, hK_43⟩ : ∃ z : Int32 → Int32 → (Nat → Int32) → (Nat → Int32) → (Nat → Int32) → Prop, z = (fun (k_34 : Int32) (k_35 : Int32) (k_36 : Nat → Int32) (k_37 : Nat → Int32) (k_38 : Nat → Int32) => post k_35 k_36 k_37 k_38) := ⟨_, rfl⟩
        have hw : ∃ n, p_P_tryAll_L43 x1 x2 x3 ring stops isExact shelves stopPlaces (p_P_tryAll d9) K_43 n (0 : Int32) fewest taken trial best := by rw [hK_43]; exact hw
        obtain ⟨n_43, hw⟩ := hw
        have key_43 : ∀ (n : Nat) (x4_16 : Int32) (fewest_17 : Int32) (taken_18 : Nat → Int32) (trial_19 : Nat → Int32) (best_20 : Nat → Int32) (H : Heap) (locs : List Loc) (ls : Array Slot), p_P_tryAll_L43 x1 x2 x3 ring stops isExact shelves stopPlaces (p_P_tryAll d9) K_43 n x4_16 fewest_17 taken_18 trial_19 best_20 → va_P D classes (pW a cI cZ ring stops fewest_17 isExact shelves stopPlaces taken_18 trial_19 best_20) H → va_D A (pW a cI cZ ring stops fewest_17 isExact shelves stopPlaces taken_18 trial_19 best_20) → va_S A s.heap H locs → lv_has ls 5 [(4, .int x4_16), (0, .ref (a 8)), (1, .int x1), (2, .int x2), (3, .int x3)] → W p l e (headSpec w_P_tryAll (rm_P_tryAll (d9 + 1))).room s m ([.ref (a 8), .int x1, .int x2, .int x3] : List Value).toArray below meth c H locs 0 0 (MQ below (va_Qv (fun (u : Int32 × (Nat → Int32) × (Nat → Int32) × (Nat → Int32)) => post u.1 u.2.1 u.2.2.1 u.2.2.2) (fun (u : Int32 × (Nat → Int32) × (Nat → Int32) × (Nat → Int32)) t => va_P D classes (pW a cI cZ ring stops u.1 isExact shelves stopPlaces u.2.1 u.2.2.1 u.2.2.2) t.heap ∧ va_K D classes [(cI, .int), (cZ, .boolean)] t ∧ va_D A (pW a cI cZ ring stops u.1 isExact shelves stopPlaces u.2.1 u.2.2.1 u.2.2.2)) A) ([.ref (a 8), .int x1, .int x2, .int x3] : List Value).toArray s 0 0 A) (F0 m 43 ls []) := by
          intro n
          induction n with
          | zero => intro x4_16 fewest_17 taken_18 trial_19 best_20 H locs ls hw hP hD hS hl; exact hw.elim
          | succ n ih_43 =>
            intro x4_16 fewest_17 taken_18 trial_19 best_20 H locs ls hw hP hD hS hl
            have hw : p_P_tryAll_L43_B x1 x2 x3 ring stops isExact shelves stopPlaces (p_P_tryAll d9) K_43 (p_P_tryAll_L43 x1 x2 x3 ring stops isExact shelves stopPlaces (p_P_tryAll d9) K_43 n) x4_16 fewest_17 taken_18 trial_19 best_20 := hw
            generalize p_P_tryAll_L43 x1 x2 x3 ring stops isExact shelves stopPlaces (p_P_tryAll d9) K_43 n = rec_43 at hw ih_43
            refine lv_iload hx hb d_P_tryAll_43 (lv_at hl 0 rfl) ?_
            refine lv_aload_n hx hb d_P_tryAll_45 rfl (lv_at hl 1 rfl) ?_
            refine va_get (D := D) (ci := 1) (v := .int stops) (C := R_P) (T := F_P) (N := 9) hx hb hts (iK iW_P) hown hK hP 0 rfl rfl 6 (by decide) (hts _ (kM kw_b8fa4191)) (fun _ h9 => h9) rfl d_P_tryAll_46 ?_
            refine lv_icmp_ge (tgt := 123) hx hb d_P_tryAll_49 (by decide) (fun c_21 => ?_) (fun c_21 => ?_)
            · have hw := hw.1 c_21
              rw [hK_43] at hw
              have hl : lv_has ls 5 [(4, .int x4_16), (0, .ref (a 8)), (1, .int x1), (2, .int x2), (3, .int x3)] := lv_sub hl [0, 1, 2, 3, 4] rfl
              exact W.vret hx hb hr (fun t ht hW => ⟨⟨(fewest_17, taken_18, trial_19, best_20), rfl, hw, by rw [ht]; exact hP, va_K.moved hW.alike hK, hD⟩, hS.F ht⟩) hS.2.2 d_P_tryAll_123
            · have hw := hw.2 c_21
              refine lv_aload_n hx hb d_P_tryAll_52 rfl (lv_at hl 1 rfl) ?_
              refine va_get (D := D) (ci := 1) (v := .ref (a 11)) (C := R_P) (T := F_P) (N := 9) hx hb hts (iK iW_P) hown hK hP 0 rfl rfl 3 (by decide) (hts _ (kM kw_16ad6009)) (fun _ h9 => h9) rfl d_P_tryAll_53 ?_
              refine lv_iload hx hb d_P_tryAll_56 (lv_at hl 0 rfl) ?_
              obtain ⟨h_22, hw⟩ := hw
              refine va_zald hx hb hK hP 3 1 rfl rfl h_22 d_P_tryAll_58 ?_
              refine lv_if_ne (tgt := 117) hx hb d_P_tryAll_59 (by decide) (fun c_23 => ?_) (fun c_23 => ?_)
              · have hw := hw.1 c_23
                refine lv_iinc (v := (x4_16 + 1)) (lv' := [(4, .int (x4_16 + 1)), (0, .ref (a 8)), (1, .int x1), (2, .int x2), (3, .int x3)]) hx hb d_P_tryAll_117 hl (k := 0) rfl rfl (by decide) rfl (fun ls hl => ?_)
                refine lv_goto (tgt := 43) hx hb d_P_tryAll_120 (by decide) ?_
                exact ih_43 (x4_16 + 1) fewest_17 taken_18 trial_19 best_20 _ _ _ hw hP hD hS (lv_sub hl [0, 1, 2, 3, 4] rfl)
              · have hw := hw.2 c_23
                refine lv_aload_n hx hb d_P_tryAll_62 rfl (lv_at hl 1 rfl) ?_
                refine va_get (D := D) (ci := 1) (v := .ref (a 11)) (C := R_P) (T := F_P) (N := 9) hx hb hts (iK iW_P) hown hK hP 0 rfl rfl 3 (by decide) (hts _ (kM kw_16ad6009)) (fun _ h9 => h9) rfl d_P_tryAll_63 ?_
                refine lv_iload hx hb d_P_tryAll_66 (lv_at hl 0 rfl) ?_
                refine lv_iconst (v := (1 : Int32)) hx hb d_P_tryAll_68 (by decide) ?_
                obtain ⟨h_24, hw⟩ := hw
                refine va_zast hx hb hK hP hD hS 3 1 rfl rfl h_24 d_P_tryAll_69 (fun H locs hP hD hS => ?_)
                have hP : va_P D classes (pW a cI cZ ring stops fewest_17 isExact shelves stopPlaces (upd taken_18 (x4_16).toNatClampNeg (vp_nar .boolean (1 : Int32))) trial_19 best_20) H := hP
                have hD : va_D A (pW a cI cZ ring stops fewest_17 isExact shelves stopPlaces (upd taken_18 (x4_16).toNatClampNeg (vp_nar .boolean (1 : Int32))) trial_19 best_20) := hD
                refine lv_aload_n hx hb d_P_tryAll_70 rfl (lv_at hl 1 rfl) ?_
                refine va_get (D := D) (ci := 1) (v := .ref (a 12)) (C := R_P) (T := F_P) (N := 9) hx hb hts (iK iW_P) hown hK hP 0 rfl rfl 4 (by decide) (hts _ (kM kw_ae787081)) (fun _ h9 => h9) rfl d_P_tryAll_71 ?_
                refine lv_iload_n hx hb d_P_tryAll_74 rfl (lv_at hl 2 rfl) ?_
                refine lv_iload hx hb d_P_tryAll_75 (lv_at hl 0 rfl) ?_
                obtain ⟨h_25, hw⟩ := hw
                refine va_iast hx hb hK hP hD hS 4 0 rfl rfl h_25 d_P_tryAll_77 (fun H locs hP hD hS => ?_)
                have hP : va_P D classes (pW a cI cZ ring stops fewest_17 isExact shelves stopPlaces (upd taken_18 (x4_16).toNatClampNeg (vp_nar .boolean (1 : Int32))) (upd trial_19 (x1).toNatClampNeg x4_16) best_20) H := hP
                have hD : va_D A (pW a cI cZ ring stops fewest_17 isExact shelves stopPlaces (upd taken_18 (x4_16).toNatClampNeg (vp_nar .boolean (1 : Int32))) (upd trial_19 (x1).toNatClampNeg x4_16) best_20) := hD
                refine lv_aload_n hx hb d_P_tryAll_78 rfl (lv_at hl 1 rfl) ?_
                refine lv_iload_n hx hb d_P_tryAll_79 rfl (lv_at hl 2 rfl) ?_
                refine lv_iconst (v := (1 : Int32)) hx hb d_P_tryAll_80 (by decide) ?_
                refine lv_iadd hx hb d_P_tryAll_81 ?_
                refine lv_aload_n hx hb d_P_tryAll_82 rfl (lv_at hl 1 rfl) ?_
                refine va_get (D := D) (ci := 1) (v := .ref (a 10)) (C := R_P) (T := F_P) (N := 9) hx hb hts (iK iW_P) hown hK hP 0 rfl rfl 2 (by decide) (hts _ (kM kw_ef43ea25)) (fun _ h9 => h9) rfl d_P_tryAll_83 ?_
                refine lv_iload hx hb d_P_tryAll_86 (lv_at hl 0 rfl) ?_
                obtain ⟨h_26, hw⟩ := hw
                refine va_iald hx hb hK hP 2 0 rfl rfl h_26 d_P_tryAll_88 ?_
                refine lv_iload_n hx hb d_P_tryAll_89 rfl (lv_at hl 4 rfl) ?_
                refine lv_iload_n hx hb d_P_tryAll_90 rfl (lv_at hl 3 rfl) ?_
                refine lv_aload_n hx hb d_P_tryAll_91 rfl (lv_at hl 1 rfl) ?_
                refine va_get (D := D) (ci := 1) (v := .ref (a 10)) (C := R_P) (T := F_P) (N := 9) hx hb hts (iK iW_P) hown hK hP 0 rfl rfl 2 (by decide) (hts _ (kM kw_ef43ea25)) (fun _ h9 => h9) rfl d_P_tryAll_92 ?_
                refine lv_iload hx hb d_P_tryAll_95 (lv_at hl 0 rfl) ?_
                obtain ⟨h_27, hw⟩ := hw
                refine va_iald hx hb hK hP 2 0 rfl rfl h_27 d_P_tryAll_97 ?_
                refine lv_aload_n hx hb d_P_tryAll_98 rfl (lv_at hl 1 rfl) ?_
                refine va_get (D := D) (ci := 1) (v := .int ring) (C := R_P) (T := F_P) (N := 9) hx hb hts (iK iW_P) hown hK hP 0 rfl rfl 0 (by decide) (hts _ (kM kw_37ce28d0)) (fun _ h9 => h9) rfl d_P_tryAll_99 ?_
                have hPc := hP.sub (ws' := []) [] rfl
                have hDc := hD.sub (ws' := []) [] (by decide) rfl
                have hFc := va_free (wc := []) hD hS hA [] rfl
                refine vp_callSi (va_runSN (As := [.int x2, .int (stopPlaces (x4_16).toNatClampNeg), .int ring]) (rest := [.int x3, .int (stopPlaces (x4_16).toNatClampNeg), .int (x1 + (1 : Int32)), .ref (a 8)]) ⟨hx, hb, hml, hown, hts⟩ (c_C_distance hw) ⟨va_cnB 3 hts (gC k_C_distance) rfl rfl rfl (hZ.m (.methodLinkNest R_P 56 y_C_distance R_C) (by decide +kernel)) (hts _ (kM kw_91859716)) (by decide +kernel) ⟨(Nat.le_trans (m := 2) (Nat.le_of_ble_eq_true rfl) (Nat.le_add_right 2 _)), (Nat.le_trans (m := 63) (Nat.le_of_ble_eq_true rfl) (Nat.le_add_right 63 _))⟩, (hts _ (kM kw_f26d23c4)), trivial⟩ ⟨kP.blind, kP.of hK hPc hDc hZ hS hFc⟩ rfl rfl hl.1 rfl (lv_room (Nat.le_of_ble_eq_true rfl)) d_P_tryAll_102 ⟨(Nat.le_of_ble_eq_true rfl), (Nat.le_of_ble_eq_true rfl)⟩).run (fun r_28 hw => ?_)
                refine lv_iadd hx hb d_P_tryAll_105 ?_
                have hPc := hP
                have hDc := hD
                have hFc := va_free (wc := pW a cI cZ ring stops fewest_17 isExact shelves stopPlaces (upd taken_18 (x4_16).toNatClampNeg (vp_nar .boolean (1 : Int32))) (upd trial_19 (x1).toNatClampNeg x4_16) best_20) hD hS hA [0, 1, 2, 3, 4, 5] rfl
                refine va_callv (va_runV (As := [.int (x1 + (1 : Int32)), .int (stopPlaces (x4_16).toNatClampNeg), .int (x3 + r_28)]) (rest := []) ⟨hx, hb, hml, hown, hts⟩ (ihd hw) (cwV 3 hts (gV k_P_tryAll kw_4325268a kw_00ff1f91 kw_97660d27 kw_9924c1cf) rfl rfl rfl (by decide +kernel) ⟨by show 2 + d9 + 1 ≤ 2 + (d9 + 1); omega, by show 8 + (5 + 11) + (63 + d9 * 40) ≤ 63 + (d9 + 1) * 40; omega⟩) ⟨kP.blind, va_recv hK hPc (ci := 1) (q0 := 0) rfl rfl, kP.of hK hPc hDc hZ hS hFc⟩ rfl rfl hl.1 rfl (lv_room (Nat.le_of_ble_eq_true rfl)) d_P_tryAll_106 ⟨(Nat.le_of_ble_eq_true rfl), (Nat.le_of_ble_eq_true rfl)⟩) hS (fun q _ h => hFc q h) hFc (fun u t H1 locs ht hvm hw hB hz1 hk1 hS => ?_)
                obtain ⟨fewest_29, taken_30, trial_31, best_32⟩ := u
                obtain ⟨hP1, hK1, hD1⟩ := hB
                try dsimp only at hw hP1 hD1
                rw [ht] at hP1
                have hK1 := va_K.moved hvm.symm hK1
                obtain ⟨hP, hD⟩ := va_join (wr := []) (w1 := pW a cI cZ ring stops fewest_29 isExact shelves stopPlaces taken_30 trial_31 best_32) hP hD [0, 1, 2, 3, 4, 5] [] rfl rfl (by decide) (by decide) hk1 hFc hP1 hD1
                generalize H1 = H at hP hS ⊢
                have hP : va_P D classes (pW a cI cZ ring stops fewest_29 isExact shelves stopPlaces taken_30 trial_31 best_32) H := hP
                have hD : va_D A (pW a cI cZ ring stops fewest_29 isExact shelves stopPlaces taken_30 trial_31 best_32) := hD
                refine lv_aload_n hx hb d_P_tryAll_109 rfl (lv_at hl 1 rfl) ?_
                refine va_get (D := D) (ci := 1) (v := .ref (a 11)) (C := R_P) (T := F_P) (N := 9) hx hb hts (iK iW_P) hown hK hP 0 rfl rfl 3 (by decide) (hts _ (kM kw_16ad6009)) (fun _ h9 => h9) rfl d_P_tryAll_110 ?_
                refine lv_iload hx hb d_P_tryAll_113 (lv_at hl 0 rfl) ?_
                refine lv_iconst (v := (0 : Int32)) hx hb d_P_tryAll_115 (by decide) ?_
                obtain ⟨h_33, hw⟩ := hw
                refine va_zast hx hb hK hP hD hS 3 1 rfl rfl h_33 d_P_tryAll_116 (fun H locs hP hD hS => ?_)
                have hP : va_P D classes (pW a cI cZ ring stops fewest_29 isExact shelves stopPlaces (upd taken_30 (x4_16).toNatClampNeg (vp_nar .boolean (0 : Int32))) trial_31 best_32) H := hP
                have hD : va_D A (pW a cI cZ ring stops fewest_29 isExact shelves stopPlaces (upd taken_30 (x4_16).toNatClampNeg (vp_nar .boolean (0 : Int32))) trial_31 best_32) := hD
                refine lv_iinc (v := (x4_16 + 1)) (lv' := [(4, .int (x4_16 + 1)), (0, .ref (a 8)), (1, .int x1), (2, .int x2), (3, .int x3)]) hx hb d_P_tryAll_117 hl (k := 0) rfl rfl (by decide) rfl (fun ls hl => ?_)
                refine lv_goto (tgt := 43) hx hb d_P_tryAll_120 (by decide) ?_
                exact ih_43 (x4_16 + 1) fewest_29 (upd taken_30 (x4_16).toNatClampNeg (vp_nar .boolean (0 : Int32))) trial_31 best_32 _ _ _ hw hP hD hS (lv_sub hl [0, 1, 2, 3, 4] rfl)
        exact key_43 n_43 (0 : Int32) fewest taken trial best _ _ _ hw hP hD hS (lv_sub hl [0, 1, 2, 3, 4] rfl)
      · have hw := hw.2 c_2
        refine lv_aload_n hx hb d_P_tryAll_17 rfl (lv_at hl 0 rfl) ?_
        refine lv_iload_n hx hb d_P_tryAll_18 rfl (lv_at hl 3 rfl) ?_
        refine va_put (D := D) (ci := 1) (v := .int x3) (ty := .int) (C := R_P) (T := F_P) (N := 9) hx hb hts (iK iW_P) t_P t_P_ok n_P hown hK hP hD hS 0 rfl rfl 7 (by decide) (hts _ (kM kw_a1bcfc1f)) (fun _ h9 => h9) rfl (by decide +kernel) rfl rfl (Nat.le_of_ble_eq_true rfl) d_P_tryAll_19 (fun H locs hP hD hS => ?_)
        have hP : va_P D classes (pW a cI cZ ring stops x3 isExact shelves stopPlaces taken trial best) H := hP
        have hD : va_D A (pW a cI cZ ring stops x3 isExact shelves stopPlaces taken trial best) := hD
        refine lv_aload_n hx hb d_P_tryAll_22 rfl (lv_at hl 0 rfl) ?_
        refine va_get (D := D) (ci := 1) (v := .ref (a 12)) (C := R_P) (T := F_P) (N := 9) hx hb hts (iK iW_P) hown hK hP 0 rfl rfl 4 (by decide) (hts _ (kM kw_ae787081)) (fun _ h9 => h9) rfl d_P_tryAll_23 ?_
        refine lv_iconst (v := (0 : Int32)) hx hb d_P_tryAll_26 (by decide) ?_
        refine lv_aload_n hx hb d_P_tryAll_27 rfl (lv_at hl 0 rfl) ?_
        refine va_get (D := D) (ci := 1) (v := .ref (a 13)) (C := R_P) (T := F_P) (N := 9) hx hb hts (iK iW_P) hown hK hP 0 rfl rfl 5 (by decide) (hts _ (kM kw_9ed59189)) (fun _ h9 => h9) rfl d_P_tryAll_28 ?_
        refine lv_iconst (v := (0 : Int32)) hx hb d_P_tryAll_31 (by decide) ?_
        refine lv_aload_n hx hb d_P_tryAll_32 rfl (lv_at hl 0 rfl) ?_
        refine va_get (D := D) (ci := 1) (v := .int stops) (C := R_P) (T := F_P) (N := 9) hx hb hts (iK iW_P) hown hK hP 0 rfl rfl 6 (by decide) (hts _ (kM kw_b8fa4191)) (fun _ h9 => h9) rfl d_P_tryAll_33 ?_
        obtain ⟨h_39, h_40, h_41, h_42, h_43, hw⟩ := hw
        refine va_copyi hx hb (hml.trans hl.1.symm) hown (hts _ (kM kw_c2eb4c85)) (hts _ (kM kw_66773d48)) (hts _ (kM kw_30dbde4c)) (hts _ (kM kw_3f8a6f3e)) hK hP hD hS 4 5 0 0 rfl rfl rfl rfl rfl h_39 h_40 h_41 h_42 h_43 (fun _ _ => rfl) (Nat.le_trans (m := 2) (Nat.le_of_ble_eq_true rfl) (Nat.le_add_right 2 _)) (Nat.le_trans (m := 63) (Nat.le_of_ble_eq_true rfl) (Nat.le_add_right 63 _)) d_P_tryAll_36 (fun H locs hP hD hS => ?_)
        have hP : va_P D classes (pW a cI cZ ring stops x3 isExact shelves stopPlaces taken trial (va_cpy trial best ((0 : Int32)).toNatClampNeg ((0 : Int32)).toNatClampNeg (stops).toNatClampNeg)) H := hP
        have hD : va_D A (pW a cI cZ ring stops x3 isExact shelves stopPlaces taken trial (va_cpy trial best ((0 : Int32)).toNatClampNeg ((0 : Int32)).toNatClampNeg (stops).toNatClampNeg)) := hD
        exact W.vret hx hb hr (fun t ht hW => ⟨⟨(x3, taken, trial, (va_cpy trial best ((0 : Int32)).toNatClampNeg ((0 : Int32)).toNatClampNeg (stops).toNatClampNeg)), rfl, hw, by rw [ht]; exact hP, va_K.moved hW.alike hK, hD⟩, hS.F ht⟩) hS.2.2 d_P_tryAll_39
    · have hw := hw.2 c_1
      exact W.vret hx hb hr (fun t ht hW => ⟨⟨(fewest, taken, trial, best), rfl, hw, by rw [ht]; exact hP, va_K.moved hW.alike hK, hD⟩, hS.F ht⟩) hS.2.2 d_P_tryAll_8
def p_P_nearest_L9_B (v1 : Int32) (ring : Int32) (stops : Int32) (stopPlaces : Nat → Int32) (taken : Nat → Int32) (K_9 : Int32 → Int32 → Int32 → Prop) (rec_9 : Int32 → Int32 → Int32 → Prop) (x2_9 : Int32) (x3_9 : Int32) (x4_9 : Int32) : Prop := ((stops ≤ x4_9 → K_9 x2_9 x3_9 x4_9) ∧ (¬ stops ≤ x4_9 → (vp_in x4_9 8 ∧ (p_C_distance v1 (stopPlaces (x4_9).toNatClampNeg) ring (fun r_3 => (vp_in x4_9 8 ∧ ((¬ (taken (x4_9).toNatClampNeg) = 0 → rec_9 x2_9 x3_9 (x4_9 + 1)) ∧ ((taken (x4_9).toNatClampNeg) = 0 → ((x3_9 ≤ r_3 → rec_9 x2_9 x3_9 (x4_9 + 1)) ∧ (¬ x3_9 ≤ r_3 → rec_9 x4_9 r_3 (x4_9 + 1)))))))))))
def p_P_nearest_L9 (v1 : Int32) (ring : Int32) (stops : Int32) (stopPlaces : Nat → Int32) (taken : Nat → Int32) (K_9 : Int32 → Int32 → Int32 → Prop) : Nat → Int32 → Int32 → Int32 → Prop
  | 0 => fun _ _ _ => False
  | n + 1 => p_P_nearest_L9_B v1 ring stops stopPlaces taken K_9 (p_P_nearest_L9 v1 ring stops stopPlaces taken K_9 n)
def p_P_nearest (x1 : Int32) (ring : Int32) (stops : Int32) (stopPlaces : Nat → Int32) (taken : Nat → Int32) (post : Int32 → Prop) : Prop := (∃ n, p_P_nearest_L9 x1 ring stops stopPlaces taken (fun (k_16 : Int32) (k_17 : Int32) (k_18 : Int32) => post k_16) n (-1 : Int32) (216 : Int32) (0 : Int32))
abbrev rm_P_nearest : Room := { frames := 2, cells := 0, slots := 0, locals := 63 }
set_option maxHeartbeats 4000000 in
set_option maxRecDepth 100000 in
theorem c_P_nearest {l : Launch} {D : va_G} {sa : Nat → Nat} {cI cZ : ClassId} {sz : Nat} {a : Nat → Nat} {ring : Int32} {stops : Int32} {fewest : Int32} {isExact : Int32} {shelves : Nat → Int32} {stopPlaces : Nat → Int32} {taken : Nat → Int32} {trial : Nat → Int32} {best : Nat → Int32} {x1 : Int32} {post : Int32 → Prop} (hw : p_P_nearest x1 ring stops stopPlaces taken post) : Met l y_P_nearest w_P_nearest rm_P_nearest (va_Pc [.ref (a 8), .int x1] (kP D sa [(cI, .int), (cZ, .boolean)] (pW a cI cZ ring stops fewest isExact shelves stopPlaces taken trial best) sz)) (vp_Si post) 0 0 (fun _ => False) := by
  refine Met.ofW (cc := b_P_nearest) (maxL := 6) (ret := (some .int)) (by decide) rfl ?_
  intro p e s m args below meth c s₁ B hml hv
  obtain ⟨rfl, hsz, hP, hK, hD0, hZ⟩ := hv
  have hx := B.exec
  have hb := B.bytes
  have hr := B.returns
  have hts := atoms_spec (ws := w_P_nearest) B.pre
  have hown : s.vm.findClass R_P = some m.cls := findClass_of_methodNamed B.named
  have hlocks := B.notSynchronized
  subst hsz
  have hD := hD0.self (sz := s.heap.size)
  generalize hAe : (va_A (pW a cI cZ ring stops fewest isExact shelves stopPlaces taken trial best) s.heap.size) = A at hD hZ
  have hA : ∀ q : Nat, s.heap.size ≤ q → A q := fun q h => by rw [← hAe]; exact Or.inr h
  have hS : va_S A s.heap s.heap [] := va_S.rf
  have hl := lv_entry ([.ref (a 8), .int x1]) (n := 6) (Nat.le_of_ble_eq_true rfl)
  rw [lg_entry_eq]
  generalize (lg_sl ([.ref (a 8), .int x1]) ++ List.replicate (6 - (lg_sl ([.ref (a 8), .int x1])).length) Slot.unset).toArray = ls at hl ⊢
  have hl : lv_has ls 6 [(0, .ref (a 8)), (1, .int x1)] := hl
  refine lv_iconst (v := (-1 : Int32)) hx hb d_P_nearest_0 (by decide) ?_
  refine lv_istore_n (lv' := [(2, .int (-1 : Int32)), (0, .ref (a 8)), (1, .int x1)]) hx hb d_P_nearest_1 rfl hl (by decide) rfl (fun ls hl => ?_)
  refine lv_sipush (v := (216 : Int32)) hx hb d_P_nearest_2 (by decide) ?_
  refine lv_istore_n (lv' := [(3, .int (216 : Int32)), (2, .int (-1 : Int32)), (0, .ref (a 8)), (1, .int x1)]) hx hb d_P_nearest_5 rfl hl (by decide) rfl (fun ls hl => ?_)
  refine lv_iconst (v := (0 : Int32)) hx hb d_P_nearest_6 (by decide) ?_
  refine lv_istore (lv' := [(4, .int (0 : Int32)), (3, .int (216 : Int32)), (2, .int (-1 : Int32)), (0, .ref (a 8)), (1, .int x1)]) hx hb d_P_nearest_7 hl (by decide) rfl (fun ls hl => ?_)
  obtain ⟨K_9, hK_9⟩ : ∃ z : Int32 → Int32 → Int32 → Prop, z = (fun (k_16 : Int32) (k_17 : Int32) (k_18 : Int32) => post k_16) := ⟨_, rfl⟩
  have hw : ∃ n, p_P_nearest_L9 x1 ring stops stopPlaces taken K_9 n (-1 : Int32) (216 : Int32) (0 : Int32) := by rw [hK_9]; exact hw
  obtain ⟨n_9, hw⟩ := hw
  have key_9 : ∀ (n : Nat) (x2_9 : Int32) (x3_8 : Int32) (x4_7 : Int32) (ls : Array Slot), p_P_nearest_L9 x1 ring stops stopPlaces taken K_9 n x2_9 x3_8 x4_7 → lv_has ls 6 [(4, .int x4_7), (3, .int x3_8), (2, .int x2_9), (0, .ref (a 8)), (1, .int x1)] → W p l e (headSpec w_P_nearest rm_P_nearest).room s m ([.ref (a 8), .int x1] : List Value).toArray below meth c s.heap [] 0 0 (MQ below (vp_Si post) ([.ref (a 8), .int x1] : List Value).toArray s 0 0 (fun _ => False)) (F0 m 9 ls []) := by
    intro n
    induction n with
    | zero => intro x2_9 x3_8 x4_7 ls hw hl; exact hw.elim
    | succ n ih_9 =>
      intro x2_9 x3_8 x4_7 ls hw hl
      have hw : p_P_nearest_L9_B x1 ring stops stopPlaces taken K_9 (p_P_nearest_L9 x1 ring stops stopPlaces taken K_9 n) x2_9 x3_8 x4_7 := hw
      generalize p_P_nearest_L9 x1 ring stops stopPlaces taken K_9 n = rec_9 at hw ih_9
      refine lv_iload hx hb d_P_nearest_9 (lv_at hl 0 rfl) ?_
      refine lv_aload_n hx hb d_P_nearest_11 rfl (lv_at hl 3 rfl) ?_
      refine va_get (D := D) (ci := 1) (v := .int stops) (C := R_P) (T := F_P) (N := 9) hx hb hts (iK iW_P) hown hK hP 0 rfl rfl 6 (by decide) (hts _ (kM kw_b8fa4191)) (fun _ h9 => h9) rfl d_P_nearest_12 ?_
      refine lv_icmp_ge (tgt := 63) hx hb d_P_nearest_15 (by decide) (fun c_10 => ?_) (fun c_10 => ?_)
      · have hw := hw.1 c_10
        rw [hK_9] at hw
        have hl : lv_has ls 6 [(4, .int x4_7), (3, .int x3_8), (2, .int x2_9), (0, .ref (a 8)), (1, .int x1)] := lv_sub hl [0, 1, 2, 3, 4] rfl
        refine lv_iload_n hx hb d_P_nearest_63 rfl (lv_at hl 2 rfl) ?_
        exact W.iret (v := x2_9) hx hb hr (fun t ht _ => ⟨x2_9, rfl, hw, ht⟩) (by simp) d_P_nearest_64
      · have hw := hw.2 c_10
        refine lv_iload_n hx hb d_P_nearest_18 rfl (lv_at hl 4 rfl) ?_
        refine lv_aload_n hx hb d_P_nearest_19 rfl (lv_at hl 3 rfl) ?_
        refine va_get (D := D) (ci := 1) (v := .ref (a 10)) (C := R_P) (T := F_P) (N := 9) hx hb hts (iK iW_P) hown hK hP 0 rfl rfl 2 (by decide) (hts _ (kM kw_ef43ea25)) (fun _ h9 => h9) rfl d_P_nearest_20 ?_
        refine lv_iload hx hb d_P_nearest_23 (lv_at hl 0 rfl) ?_
        obtain ⟨h_11, hw⟩ := hw
        refine va_iald hx hb hK hP 2 0 rfl rfl h_11 d_P_nearest_25 ?_
        refine lv_aload_n hx hb d_P_nearest_26 rfl (lv_at hl 3 rfl) ?_
        refine va_get (D := D) (ci := 1) (v := .int ring) (C := R_P) (T := F_P) (N := 9) hx hb hts (iK iW_P) hown hK hP 0 rfl rfl 0 (by decide) (hts _ (kM kw_37ce28d0)) (fun _ h9 => h9) rfl d_P_nearest_27 ?_
        have hPc := hP.sub (ws' := []) [] rfl
        have hDc := hD.sub (ws' := []) [] (by decide) rfl
        have hFc := va_free (wc := []) hD hS hA [] rfl
        refine vp_callSi (va_runSN (As := [.int x1, .int (stopPlaces (x4_7).toNatClampNeg), .int ring]) (rest := []) ⟨hx, hb, hml, hown, hts⟩ (c_C_distance hw) ⟨va_cnB 3 hts (gC k_C_distance) rfl rfl rfl (hZ.m (.methodLinkNest R_P 56 y_C_distance R_C) (by decide +kernel)) (hts _ (kM kw_91859716)) (by decide +kernel) ⟨(Nat.le_of_ble_eq_true rfl), (Nat.le_of_ble_eq_true rfl)⟩, (hts _ (kM kw_f26d23c4)), trivial⟩ ⟨kP.blind, kP.of hK hPc hDc hZ hS hFc⟩ rfl rfl hl.1 rfl (lv_room (Nat.le_of_ble_eq_true rfl)) d_P_nearest_30 ⟨(Nat.le_of_ble_eq_true rfl), (Nat.le_of_ble_eq_true rfl)⟩).run (fun r_12 hw => ?_)
        refine lv_istore (lv' := [(5, .int r_12), (4, .int x4_7), (3, .int x3_8), (2, .int x2_9), (0, .ref (a 8)), (1, .int x1)]) hx hb d_P_nearest_33 hl (by decide) rfl (fun ls hl => ?_)
        refine lv_aload_n hx hb d_P_nearest_35 rfl (lv_at hl 4 rfl) ?_
        refine va_get (D := D) (ci := 1) (v := .ref (a 11)) (C := R_P) (T := F_P) (N := 9) hx hb hts (iK iW_P) hown hK hP 0 rfl rfl 3 (by decide) (hts _ (kM kw_16ad6009)) (fun _ h9 => h9) rfl d_P_nearest_36 ?_
        refine lv_iload hx hb d_P_nearest_39 (lv_at hl 1 rfl) ?_
        obtain ⟨h_13, hw⟩ := hw
        refine va_zald hx hb hK hP 3 1 rfl rfl h_13 d_P_nearest_41 ?_
        refine lv_if_ne (tgt := 57) hx hb d_P_nearest_42 (by decide) (fun c_14 => ?_) (fun c_14 => ?_)
        · have hw := hw.1 c_14
          refine lv_iinc (v := (x4_7 + 1)) (lv' := [(4, .int (x4_7 + 1)), (5, .int r_12), (3, .int x3_8), (2, .int x2_9), (0, .ref (a 8)), (1, .int x1)]) hx hb d_P_nearest_57 hl (k := 1) rfl rfl (by decide) rfl (fun ls hl => ?_)
          refine lv_goto (tgt := 9) hx hb d_P_nearest_60 (by decide) ?_
          exact ih_9 x2_9 x3_8 (x4_7 + 1) _ hw (lv_sub hl [0, 2, 3, 4, 5] rfl)
        · have hw := hw.2 c_14
          refine lv_iload hx hb d_P_nearest_45 (lv_at hl 0 rfl) ?_
          refine lv_iload_n hx hb d_P_nearest_47 rfl (lv_at hl 2 rfl) ?_
          refine lv_icmp_ge (tgt := 57) hx hb d_P_nearest_48 (by decide) (fun c_15 => ?_) (fun c_15 => ?_)
          · have hw := hw.1 c_15
            refine lv_iinc (v := (x4_7 + 1)) (lv' := [(4, .int (x4_7 + 1)), (5, .int r_12), (3, .int x3_8), (2, .int x2_9), (0, .ref (a 8)), (1, .int x1)]) hx hb d_P_nearest_57 hl (k := 1) rfl rfl (by decide) rfl (fun ls hl => ?_)
            refine lv_goto (tgt := 9) hx hb d_P_nearest_60 (by decide) ?_
            exact ih_9 x2_9 x3_8 (x4_7 + 1) _ hw (lv_sub hl [0, 2, 3, 4, 5] rfl)
          · have hw := hw.2 c_15
            refine lv_iload hx hb d_P_nearest_51 (lv_at hl 1 rfl) ?_
            refine lv_istore_n (lv' := [(2, .int x4_7), (5, .int r_12), (4, .int x4_7), (3, .int x3_8), (0, .ref (a 8)), (1, .int x1)]) hx hb d_P_nearest_53 rfl hl (by decide) rfl (fun ls hl => ?_)
            refine lv_iload hx hb d_P_nearest_54 (lv_at hl 1 rfl) ?_
            refine lv_istore_n (lv' := [(3, .int r_12), (2, .int x4_7), (5, .int r_12), (4, .int x4_7), (0, .ref (a 8)), (1, .int x1)]) hx hb d_P_nearest_56 rfl hl (by decide) rfl (fun ls hl => ?_)
            refine lv_iinc (v := (x4_7 + 1)) (lv' := [(4, .int (x4_7 + 1)), (3, .int r_12), (2, .int x4_7), (5, .int r_12), (0, .ref (a 8)), (1, .int x1)]) hx hb d_P_nearest_57 hl (k := 3) rfl rfl (by decide) rfl (fun ls hl => ?_)
            refine lv_goto (tgt := 9) hx hb d_P_nearest_60 (by decide) ?_
            exact ih_9 x4_7 r_12 (x4_7 + 1) _ hw (lv_sub hl [0, 1, 2, 4, 5] rfl)
  exact key_9 n_9 (-1 : Int32) (216 : Int32) (0 : Int32) _ hw (lv_sub hl [0, 1, 2, 3, 4] rfl)
def p_P_followRule_L9_B (ring : Int32) (stops : Int32) (stopPlaces : Nat → Int32) (post : Int32 → (Nat → Int32) → (Nat → Int32) → Prop) (K_9 : Int32 → Int32 → Int32 → (Nat → Int32) → (Nat → Int32) → Prop) (rec_9 : Int32 → Int32 → Int32 → (Nat → Int32) → (Nat → Int32) → Prop) (x2_9 : Int32) (x3_9 : Int32) (fewest_9 : Int32) (taken_9 : Nat → Int32) (best_9 : Nat → Int32) : Prop := ((stops ≤ x3_9 → K_9 x2_9 x3_9 fewest_9 taken_9 best_9) ∧ (¬ stops ≤ x3_9 → (p_P_nearest x2_9 ring stops stopPlaces taken_9 (fun r_2 => ((¬ r_2 = (-1 : Int32) → (vp_in r_2 8 ∧ (vp_in x3_9 8 ∧ (vp_in r_2 8 ∧ (p_C_distance x2_9 (stopPlaces (r_2).toNatClampNeg) ring (fun r_7 => (vp_in r_2 8 ∧ rec_9 (stopPlaces (r_2).toNatClampNeg) (x3_9 + 1) (fewest_9 + r_7) (upd taken_9 (r_2).toNatClampNeg (vp_nar .boolean (1 : Int32))) (upd best_9 (x3_9).toNatClampNeg r_2)))))))) ∧ (r_2 = (-1 : Int32) → post fewest_9 taken_9 best_9))))))
def p_P_followRule_L9 (ring : Int32) (stops : Int32) (stopPlaces : Nat → Int32) (post : Int32 → (Nat → Int32) → (Nat → Int32) → Prop) (K_9 : Int32 → Int32 → Int32 → (Nat → Int32) → (Nat → Int32) → Prop) : Nat → Int32 → Int32 → Int32 → (Nat → Int32) → (Nat → Int32) → Prop
  | 0 => fun _ _ _ _ _ => False
  | n + 1 => p_P_followRule_L9_B ring stops stopPlaces post K_9 (p_P_followRule_L9 ring stops stopPlaces post K_9 n)
def p_P_followRule (x1 : Int32) (ring : Int32) (stops : Int32) (stopPlaces : Nat → Int32) (taken : Nat → Int32) (best : Nat → Int32) (post : Int32 → (Nat → Int32) → (Nat → Int32) → Prop) : Prop := (∃ n, p_P_followRule_L9 ring stops stopPlaces post (fun (k_22 : Int32) (k_23 : Int32) (k_24 : Int32) (k_25 : Nat → Int32) (k_26 : Nat → Int32) => post k_24 k_25 k_26) n x1 (0 : Int32) (0 : Int32) taken best)
abbrev rm_P_followRule : Room := { frames := 3, cells := 0, slots := 0, locals := 88 }
set_option maxHeartbeats 4000000 in
set_option maxRecDepth 100000 in
theorem c_P_followRule {l : Launch} {D : va_G} {sa : Nat → Nat} {cI cZ : ClassId} {sz : Nat} {a : Nat → Nat} {ring : Int32} {stops : Int32} {fewest : Int32} {isExact : Int32} {shelves : Nat → Int32} {stopPlaces : Nat → Int32} {taken : Nat → Int32} {trial : Nat → Int32} {best : Nat → Int32} {x1 : Int32} {post : Int32 → (Nat → Int32) → (Nat → Int32) → Prop} (hw : p_P_followRule x1 ring stops stopPlaces taken best post) : Met l y_P_followRule w_P_followRule rm_P_followRule (va_Pc [.ref (a 8), .int x1] (kP D sa [(cI, .int), (cZ, .boolean)] (pW a cI cZ ring stops fewest isExact shelves stopPlaces taken trial best) sz)) (va_Qv (fun (u : Int32 × (Nat → Int32) × (Nat → Int32)) => post u.1 u.2.1 u.2.2) (fun (u : Int32 × (Nat → Int32) × (Nat → Int32)) t => va_P D classes (pW a cI cZ ring stops u.1 isExact shelves stopPlaces u.2.1 trial u.2.2) t.heap ∧ va_K D classes [(cI, .int), (cZ, .boolean)] t ∧ va_D (va_A (pW a cI cZ ring stops fewest isExact shelves stopPlaces taken trial best) sz) (pW a cI cZ ring stops u.1 isExact shelves stopPlaces u.2.1 trial u.2.2)) (va_A (pW a cI cZ ring stops fewest isExact shelves stopPlaces taken trial best) sz)) 0 0 (va_A (pW a cI cZ ring stops fewest isExact shelves stopPlaces taken trial best) sz) := by
  refine Met.ofW (cc := b_P_followRule) (maxL := 5) (ret := none) (by decide) rfl ?_
  intro p e s m args below meth c s₁ B hml hv
  obtain ⟨rfl, hsz, hP, hK, hD0, hZ⟩ := hv
  have hx := B.exec
  have hb := B.bytes
  have hr := B.returns
  have hts := atoms_spec (ws := w_P_followRule) B.pre
  have hown : s.vm.findClass R_P = some m.cls := findClass_of_methodNamed B.named
  have hlocks := B.notSynchronized
  subst hsz
  have hD := hD0.self (sz := s.heap.size)
  generalize hAe : (va_A (pW a cI cZ ring stops fewest isExact shelves stopPlaces taken trial best) s.heap.size) = A at hD hZ ⊢
  have hA : ∀ q : Nat, s.heap.size ≤ q → A q := fun q h => by rw [← hAe]; exact Or.inr h
  have hS : va_S A s.heap s.heap [] := va_S.rf
  have hl := lv_entry ([.ref (a 8), .int x1]) (n := 5) (Nat.le_of_ble_eq_true rfl)
  rw [lg_entry_eq]
  generalize (lg_sl ([.ref (a 8), .int x1]) ++ List.replicate (5 - (lg_sl ([.ref (a 8), .int x1])).length) Slot.unset).toArray = ls at hl ⊢
  have hl : lv_has ls 5 [(0, .ref (a 8)), (1, .int x1)] := hl
  refine lv_iload_n hx hb d_P_followRule_0 rfl (lv_at hl 1 rfl) ?_
  refine lv_istore_n (lv' := [(2, .int x1), (0, .ref (a 8)), (1, .int x1)]) hx hb d_P_followRule_1 rfl hl (by decide) rfl (fun ls hl => ?_)
  refine lv_aload_n hx hb d_P_followRule_2 rfl (lv_at hl 1 rfl) ?_
  refine lv_iconst (v := (0 : Int32)) hx hb d_P_followRule_3 (by decide) ?_
  refine va_put (D := D) (ci := 1) (v := .int (0 : Int32)) (ty := .int) (C := R_P) (T := F_P) (N := 9) hx hb hts (iK iW_P) t_P t_P_ok n_P hown hK hP hD hS 0 rfl rfl 7 (by decide) (hts _ (kM kw_a1bcfc1f)) (fun _ h9 => h9) rfl (by decide +kernel) rfl rfl (Nat.le_of_ble_eq_true rfl) d_P_followRule_4 (fun H locs hP hD hS => ?_)
  have hP : va_P D classes (pW a cI cZ ring stops (0 : Int32) isExact shelves stopPlaces taken trial best) H := hP
  have hD : va_D A (pW a cI cZ ring stops (0 : Int32) isExact shelves stopPlaces taken trial best) := hD
  refine lv_iconst (v := (0 : Int32)) hx hb d_P_followRule_7 (by decide) ?_
  refine lv_istore_n (lv' := [(3, .int (0 : Int32)), (2, .int x1), (0, .ref (a 8)), (1, .int x1)]) hx hb d_P_followRule_8 rfl hl (by decide) rfl (fun ls hl => ?_)
  obtain ⟨K_9, hK_9⟩ : ∃ z : Int32 → Int32 → Int32 → (Nat → Int32) → (Nat → Int32) → Prop, z = (fun (k_22 : Int32) (k_23 : Int32) (k_24 : Int32) (k_25 : Nat → Int32) (k_26 : Nat → Int32) => post k_24 k_25 k_26) := ⟨_, rfl⟩
  have hw : ∃ n, p_P_followRule_L9 ring stops stopPlaces post K_9 n x1 (0 : Int32) (0 : Int32) taken best := by rw [hK_9]; exact hw
  obtain ⟨n_9, hw⟩ := hw
  have key_9 : ∀ (n : Nat) (x2_10 : Int32) (x3_9 : Int32) (fewest_11 : Int32) (taken_12 : Nat → Int32) (best_13 : Nat → Int32) (H : Heap) (locs : List Loc) (ls : Array Slot), p_P_followRule_L9 ring stops stopPlaces post K_9 n x2_10 x3_9 fewest_11 taken_12 best_13 → va_P D classes (pW a cI cZ ring stops fewest_11 isExact shelves stopPlaces taken_12 trial best_13) H → va_D A (pW a cI cZ ring stops fewest_11 isExact shelves stopPlaces taken_12 trial best_13) → va_S A s.heap H locs → lv_has ls 5 [(3, .int x3_9), (2, .int x2_10), (0, .ref (a 8)), (1, .int x1)] → W p l e (headSpec w_P_followRule rm_P_followRule).room s m ([.ref (a 8), .int x1] : List Value).toArray below meth c H locs 0 0 (MQ below (va_Qv (fun (u : Int32 × (Nat → Int32) × (Nat → Int32)) => post u.1 u.2.1 u.2.2) (fun (u : Int32 × (Nat → Int32) × (Nat → Int32)) t => va_P D classes (pW a cI cZ ring stops u.1 isExact shelves stopPlaces u.2.1 trial u.2.2) t.heap ∧ va_K D classes [(cI, .int), (cZ, .boolean)] t ∧ va_D A (pW a cI cZ ring stops u.1 isExact shelves stopPlaces u.2.1 trial u.2.2)) A) ([.ref (a 8), .int x1] : List Value).toArray s 0 0 A) (F0 m 9 ls []) := by
    intro n
    induction n with
    | zero => intro x2_10 x3_9 fewest_11 taken_12 best_13 H locs ls hw hP hD hS hl; exact hw.elim
    | succ n ih_9 =>
      intro x2_10 x3_9 fewest_11 taken_12 best_13 H locs ls hw hP hD hS hl
      have hw : p_P_followRule_L9_B ring stops stopPlaces post K_9 (p_P_followRule_L9 ring stops stopPlaces post K_9 n) x2_10 x3_9 fewest_11 taken_12 best_13 := hw
      generalize p_P_followRule_L9 ring stops stopPlaces post K_9 n = rec_9 at hw ih_9
      refine lv_iload_n hx hb d_P_followRule_9 rfl (lv_at hl 0 rfl) ?_
      refine lv_aload_n hx hb d_P_followRule_10 rfl (lv_at hl 2 rfl) ?_
      refine va_get (D := D) (ci := 1) (v := .int stops) (C := R_P) (T := F_P) (N := 9) hx hb hts (iK iW_P) hown hK hP 0 rfl rfl 6 (by decide) (hts _ (kM kw_b8fa4191)) (fun _ h9 => h9) rfl d_P_followRule_11 ?_
      refine lv_icmp_ge (tgt := 85) hx hb d_P_followRule_14 (by decide) (fun c_14 => ?_) (fun c_14 => ?_)
      · have hw := hw.1 c_14
        rw [hK_9] at hw
        have hl : lv_has ls 5 [(3, .int x3_9), (2, .int x2_10), (0, .ref (a 8)), (1, .int x1)] := lv_sub hl [0, 1, 2, 3] rfl
        exact W.vret hx hb hr (fun t ht hW => ⟨⟨(fewest_11, taken_12, best_13), rfl, hw, by rw [ht]; exact hP, va_K.moved hW.alike hK, hD⟩, hS.F ht⟩) hS.2.2 d_P_followRule_85
      · have hw := hw.2 c_14
        refine lv_aload_n hx hb d_P_followRule_17 rfl (lv_at hl 2 rfl) ?_
        refine lv_iload_n hx hb d_P_followRule_18 rfl (lv_at hl 1 rfl) ?_
        have hPc := hP
        have hDc := hD
        have hFc := va_free (wc := pW a cI cZ ring stops fewest_11 isExact shelves stopPlaces taken_12 trial best_13) hD hS hA [0, 1, 2, 3, 4, 5] rfl
        refine vp_callSi (W.runV (As := [.int x2_10]) (rest := []) ⟨hx, hb, hml, hown, hts⟩ (c_P_nearest hw) (cwV 1 hts (gV k_P_nearest kw_27f09d39 kw_47a0f71c kw_d5745b98 kw_9924c1cf) rfl rfl rfl (by decide +kernel) ⟨(Nat.le_of_ble_eq_true rfl), (Nat.le_of_ble_eq_true rfl)⟩) ⟨kP.blind, va_recv hK hPc (ci := 1) (q0 := 0) rfl rfl, kP.of hK hPc hDc hZ hS hFc⟩ rfl rfl hl.1 rfl (lv_room (Nat.le_of_ble_eq_true rfl)) d_P_followRule_19 ⟨(Nat.le_of_ble_eq_true rfl), (Nat.le_of_ble_eq_true rfl)⟩) (fun r_15 hw => ?_)
        refine lv_istore (lv' := [(4, .int r_15), (3, .int x3_9), (2, .int x2_10), (0, .ref (a 8)), (1, .int x1)]) hx hb d_P_followRule_22 hl (by decide) rfl (fun ls hl => ?_)
        refine lv_iload hx hb d_P_followRule_24 (lv_at hl 0 rfl) ?_
        refine lv_iconst (v := (-1 : Int32)) hx hb d_P_followRule_26 (by decide) ?_
        refine lv_icmp_ne (tgt := 31) hx hb d_P_followRule_27 (by decide) (fun c_16 => ?_) (fun c_16 => ?_)
        · have hw := hw.1 c_16
          refine lv_aload_n hx hb d_P_followRule_31 rfl (lv_at hl 3 rfl) ?_
          refine va_get (D := D) (ci := 1) (v := .ref (a 11)) (C := R_P) (T := F_P) (N := 9) hx hb hts (iK iW_P) hown hK hP 0 rfl rfl 3 (by decide) (hts _ (kM kw_16ad6009)) (fun _ h9 => h9) rfl d_P_followRule_32 ?_
          refine lv_iload hx hb d_P_followRule_35 (lv_at hl 0 rfl) ?_
          refine lv_iconst (v := (1 : Int32)) hx hb d_P_followRule_37 (by decide) ?_
          obtain ⟨h_17, hw⟩ := hw
          refine va_zast hx hb hK hP hD hS 3 1 rfl rfl h_17 d_P_followRule_38 (fun H locs hP hD hS => ?_)
          have hP : va_P D classes (pW a cI cZ ring stops fewest_11 isExact shelves stopPlaces (upd taken_12 (r_15).toNatClampNeg (vp_nar .boolean (1 : Int32))) trial best_13) H := hP
          have hD : va_D A (pW a cI cZ ring stops fewest_11 isExact shelves stopPlaces (upd taken_12 (r_15).toNatClampNeg (vp_nar .boolean (1 : Int32))) trial best_13) := hD
          refine lv_aload_n hx hb d_P_followRule_39 rfl (lv_at hl 3 rfl) ?_
          refine va_get (D := D) (ci := 1) (v := .ref (a 13)) (C := R_P) (T := F_P) (N := 9) hx hb hts (iK iW_P) hown hK hP 0 rfl rfl 5 (by decide) (hts _ (kM kw_9ed59189)) (fun _ h9 => h9) rfl d_P_followRule_40 ?_
          refine lv_iload_n hx hb d_P_followRule_43 rfl (lv_at hl 1 rfl) ?_
          refine lv_iload hx hb d_P_followRule_44 (lv_at hl 0 rfl) ?_
          obtain ⟨h_18, hw⟩ := hw
          refine va_iast hx hb hK hP hD hS 5 0 rfl rfl h_18 d_P_followRule_46 (fun H locs hP hD hS => ?_)
          have hP : va_P D classes (pW a cI cZ ring stops fewest_11 isExact shelves stopPlaces (upd taken_12 (r_15).toNatClampNeg (vp_nar .boolean (1 : Int32))) trial (upd best_13 (x3_9).toNatClampNeg r_15)) H := hP
          have hD : va_D A (pW a cI cZ ring stops fewest_11 isExact shelves stopPlaces (upd taken_12 (r_15).toNatClampNeg (vp_nar .boolean (1 : Int32))) trial (upd best_13 (x3_9).toNatClampNeg r_15)) := hD
          refine lv_aload_n hx hb d_P_followRule_47 rfl (lv_at hl 3 rfl) ?_
          refine lv_dup hx hb d_P_followRule_48 rfl ?_
          refine va_get (D := D) (ci := 1) (v := .int fewest_11) (C := R_P) (T := F_P) (N := 9) hx hb hts (iK iW_P) hown hK hP 0 rfl rfl 7 (by decide) (hts _ (kM kw_a1bcfc1f)) (fun _ h9 => h9) rfl d_P_followRule_49 ?_
          refine lv_iload_n hx hb d_P_followRule_52 rfl (lv_at hl 2 rfl) ?_
          refine lv_aload_n hx hb d_P_followRule_53 rfl (lv_at hl 3 rfl) ?_
          refine va_get (D := D) (ci := 1) (v := .ref (a 10)) (C := R_P) (T := F_P) (N := 9) hx hb hts (iK iW_P) hown hK hP 0 rfl rfl 2 (by decide) (hts _ (kM kw_ef43ea25)) (fun _ h9 => h9) rfl d_P_followRule_54 ?_
          refine lv_iload hx hb d_P_followRule_57 (lv_at hl 0 rfl) ?_
          obtain ⟨h_19, hw⟩ := hw
          refine va_iald hx hb hK hP 2 0 rfl rfl h_19 d_P_followRule_59 ?_
          refine lv_aload_n hx hb d_P_followRule_60 rfl (lv_at hl 3 rfl) ?_
          refine va_get (D := D) (ci := 1) (v := .int ring) (C := R_P) (T := F_P) (N := 9) hx hb hts (iK iW_P) hown hK hP 0 rfl rfl 0 (by decide) (hts _ (kM kw_37ce28d0)) (fun _ h9 => h9) rfl d_P_followRule_61 ?_
          have hPc := hP.sub (ws' := []) [] rfl
          have hDc := hD.sub (ws' := []) [] (by decide) rfl
          have hFc := va_free (wc := []) hD hS hA [] rfl
          refine vp_callSi (va_runSN (As := [.int x2_10, .int (stopPlaces (r_15).toNatClampNeg), .int ring]) (rest := [.int fewest_11, .ref (a 8)]) ⟨hx, hb, hml, hown, hts⟩ (c_C_distance hw) ⟨va_cnB 3 hts (gC k_C_distance) rfl rfl rfl (hZ.m (.methodLinkNest R_P 56 y_C_distance R_C) (by decide +kernel)) (hts _ (kM kw_91859716)) (by decide +kernel) ⟨(Nat.le_of_ble_eq_true rfl), (Nat.le_of_ble_eq_true rfl)⟩, (hts _ (kM kw_f26d23c4)), trivial⟩ ⟨kP.blind, kP.of hK hPc hDc hZ hS hFc⟩ rfl rfl hl.1 rfl (lv_room (Nat.le_of_ble_eq_true rfl)) d_P_followRule_64 ⟨(Nat.le_of_ble_eq_true rfl), (Nat.le_of_ble_eq_true rfl)⟩).run (fun r_20 hw => ?_)
          refine lv_iadd hx hb d_P_followRule_67 ?_
          refine va_put (D := D) (ci := 1) (v := .int (fewest_11 + r_20)) (ty := .int) (C := R_P) (T := F_P) (N := 9) hx hb hts (iK iW_P) t_P t_P_ok n_P hown hK hP hD hS 0 rfl rfl 7 (by decide) (hts _ (kM kw_a1bcfc1f)) (fun _ h9 => h9) rfl (by decide +kernel) rfl rfl (Nat.le_of_ble_eq_true rfl) d_P_followRule_68 (fun H locs hP hD hS => ?_)
          have hP : va_P D classes (pW a cI cZ ring stops (fewest_11 + r_20) isExact shelves stopPlaces (upd taken_12 (r_15).toNatClampNeg (vp_nar .boolean (1 : Int32))) trial (upd best_13 (x3_9).toNatClampNeg r_15)) H := hP
          have hD : va_D A (pW a cI cZ ring stops (fewest_11 + r_20) isExact shelves stopPlaces (upd taken_12 (r_15).toNatClampNeg (vp_nar .boolean (1 : Int32))) trial (upd best_13 (x3_9).toNatClampNeg r_15)) := hD
          refine lv_aload_n hx hb d_P_followRule_71 rfl (lv_at hl 3 rfl) ?_
          refine va_get (D := D) (ci := 1) (v := .ref (a 10)) (C := R_P) (T := F_P) (N := 9) hx hb hts (iK iW_P) hown hK hP 0 rfl rfl 2 (by decide) (hts _ (kM kw_ef43ea25)) (fun _ h9 => h9) rfl d_P_followRule_72 ?_
          refine lv_iload hx hb d_P_followRule_75 (lv_at hl 0 rfl) ?_
          obtain ⟨h_21, hw⟩ := hw
          refine va_iald hx hb hK hP 2 0 rfl rfl h_21 d_P_followRule_77 ?_
          refine lv_istore_n (lv' := [(2, .int (stopPlaces (r_15).toNatClampNeg)), (4, .int r_15), (3, .int x3_9), (0, .ref (a 8)), (1, .int x1)]) hx hb d_P_followRule_78 rfl hl (by decide) rfl (fun ls hl => ?_)
          refine lv_iinc (v := (x3_9 + 1)) (lv' := [(3, .int (x3_9 + 1)), (2, .int (stopPlaces (r_15).toNatClampNeg)), (4, .int r_15), (0, .ref (a 8)), (1, .int x1)]) hx hb d_P_followRule_79 hl (k := 2) rfl rfl (by decide) rfl (fun ls hl => ?_)
          refine lv_goto (tgt := 9) hx hb d_P_followRule_82 (by decide) ?_
          exact ih_9 (stopPlaces (r_15).toNatClampNeg) (x3_9 + 1) (fewest_11 + r_20) (upd taken_12 (r_15).toNatClampNeg (vp_nar .boolean (1 : Int32))) (upd best_13 (x3_9).toNatClampNeg r_15) _ _ _ hw hP hD hS (lv_sub hl [0, 1, 3, 4] rfl)
        · have hw := hw.2 c_16
          exact W.vret hx hb hr (fun t ht hW => ⟨⟨(fewest_11, taken_12, best_13), rfl, hw, by rw [ht]; exact hP, va_K.moved hW.alike hK, hD⟩, hS.F ht⟩) hS.2.2 d_P_followRule_30
  exact key_9 n_9 x1 (0 : Int32) (0 : Int32) taken best _ _ _ hw hP hD hS (lv_sub hl [0, 1, 2, 3] rfl)
def p_P_order (x1 : Int32) (x2 : Int32) (ring : Int32) (stops : Int32) (shelves : Nat → Int32) (stopPlaces : Nat → Int32) (taken : Nat → Int32) (trial : Nat → Int32) (best : Nat → Int32) (post : Int32 → Int32 → Int32 → (Nat → Int32) → (Nat → Int32) → (Nat → Int32) → Prop) : Prop := ((x2 < stops → (p_P_followRule x1 ring stops stopPlaces taken best (fun fewest_3 taken_4 best_5 => post fewest_3 fewest_3 (0 : Int32) taken_4 trial best_5))) ∧ (¬ x2 < stops → (p_P_tryAll 8 (0 : Int32) x1 (0 : Int32) ring stops (216 : Int32) (1 : Int32) shelves stopPlaces taken trial best (fun fewest_7 taken_8 trial_9 best_10 => post fewest_7 fewest_7 (1 : Int32) taken_8 trial_9 best_10))))
abbrev rm_P_order : Room := { frames := 11, cells := 0, slots := 0, locals := 407 }
set_option maxHeartbeats 4000000 in
set_option maxRecDepth 100000 in
theorem c_P_order {l : Launch} {D : va_G} {sa : Nat → Nat} {cI cZ : ClassId} {sz : Nat} {a : Nat → Nat} {ring : Int32} {stops : Int32} {fewest : Int32} {isExact : Int32} {shelves : Nat → Int32} {stopPlaces : Nat → Int32} {taken : Nat → Int32} {trial : Nat → Int32} {best : Nat → Int32} {x1 : Int32} {x2 : Int32} {post : Int32 → Int32 → Int32 → (Nat → Int32) → (Nat → Int32) → (Nat → Int32) → Prop} (hw : p_P_order x1 x2 ring stops shelves stopPlaces taken trial best post) : Met l y_P_order w_P_order rm_P_order (va_Pc [.ref (a 8), .int x1, .int x2] (kP D sa [(cI, .int), (cZ, .boolean)] (pW a cI cZ ring stops fewest isExact shelves stopPlaces taken trial best) sz)) (va_Qi (fun r (u : Int32 × Int32 × (Nat → Int32) × (Nat → Int32) × (Nat → Int32)) => post r u.1 u.2.1 u.2.2.1 u.2.2.2.1 u.2.2.2.2) (fun (u : Int32 × Int32 × (Nat → Int32) × (Nat → Int32) × (Nat → Int32)) t => va_P D classes (pW a cI cZ ring stops u.1 u.2.1 shelves stopPlaces u.2.2.1 u.2.2.2.1 u.2.2.2.2) t.heap ∧ va_K D classes [(cI, .int), (cZ, .boolean)] t ∧ va_D (va_A (pW a cI cZ ring stops fewest isExact shelves stopPlaces taken trial best) sz) (pW a cI cZ ring stops u.1 u.2.1 shelves stopPlaces u.2.2.1 u.2.2.2.1 u.2.2.2.2)) (va_A (pW a cI cZ ring stops fewest isExact shelves stopPlaces taken trial best) sz)) 0 0 (va_A (pW a cI cZ ring stops fewest isExact shelves stopPlaces taken trial best) sz) := by
  refine Met.ofW (cc := b_P_order) (maxL := 3) (ret := (some .int)) (by decide) rfl ?_
  intro p e s m args below meth c s₁ B hml hv
  obtain ⟨rfl, hsz, hP, hK, hD0, hZ⟩ := hv
  have hx := B.exec
  have hb := B.bytes
  have hr := B.returns
  have hts := atoms_spec (ws := w_P_order) B.pre
  have hown : s.vm.findClass R_P = some m.cls := findClass_of_methodNamed B.named
  have hlocks := B.notSynchronized
  subst hsz
  have hD := hD0.self (sz := s.heap.size)
  generalize hAe : (va_A (pW a cI cZ ring stops fewest isExact shelves stopPlaces taken trial best) s.heap.size) = A at hD hZ ⊢
  have hA : ∀ q : Nat, s.heap.size ≤ q → A q := fun q h => by rw [← hAe]; exact Or.inr h
  have hS : va_S A s.heap s.heap [] := va_S.rf
  have hl := lv_entry ([.ref (a 8), .int x1, .int x2]) (n := 3) (Nat.le_of_ble_eq_true rfl)
  rw [lg_entry_eq]
  generalize (lg_sl ([.ref (a 8), .int x1, .int x2]) ++ List.replicate (3 - (lg_sl ([.ref (a 8), .int x1, .int x2])).length) Slot.unset).toArray = ls at hl ⊢
  have hl : lv_has ls 3 [(0, .ref (a 8)), (1, .int x1), (2, .int x2)] := hl
  refine lv_aload_n hx hb d_P_order_0 rfl (lv_at hl 0 rfl) ?_
  refine lv_aload_n hx hb d_P_order_1 rfl (lv_at hl 0 rfl) ?_
  refine va_get (D := D) (ci := 1) (v := .int stops) (C := R_P) (T := F_P) (N := 9) hx hb hts (iK iW_P) hown hK hP 0 rfl rfl 6 (by decide) (hts _ (kM kw_b8fa4191)) (fun _ h9 => h9) rfl d_P_order_2 ?_
  refine lv_iload_n hx hb d_P_order_5 rfl (lv_at hl 2 rfl) ?_
  refine lv_icmp_gt (tgt := 13) hx hb d_P_order_6 (by decide) (fun c_1 => ?_) (fun c_1 => ?_)
  · have hw := hw.1 c_1
    refine lv_iconst (v := (0 : Int32)) hx hb d_P_order_13 (by decide) ?_
    refine va_put (D := D) (ci := 1) (v := .int (0 : Int32)) (ty := .boolean) (C := R_P) (T := F_P) (N := 9) hx hb hts (iK iW_P) t_P t_P_ok n_P hown hK hP hD hS 0 rfl rfl 8 (by decide) (hts _ (kM kw_076ea5fa)) (fun _ h9 => h9) rfl (by decide +kernel) rfl rfl (Nat.le_of_ble_eq_true rfl) d_P_order_14 (fun H locs hP hD hS => ?_)
    have hP : va_P D classes (pW a cI cZ ring stops fewest (0 : Int32) shelves stopPlaces taken trial best) H := hP
    have hD : va_D A (pW a cI cZ ring stops fewest (0 : Int32) shelves stopPlaces taken trial best) := hD
    refine lv_aload_n hx hb d_P_order_17 rfl (lv_at hl 0 rfl) ?_
    refine va_get (D := D) (ci := 1) (v := .int (0 : Int32)) (C := R_P) (T := F_P) (N := 9) hx hb hts (iK iW_P) hown hK hP 0 rfl rfl 8 (by decide) (hts _ (kM kw_076ea5fa)) (fun _ h9 => h9) rfl d_P_order_18 ?_
    refine lv_if_eq (tgt := 41) hx hb d_P_order_21 (by decide) (fun c_2 => ?_) (fun c_2 => absurd c_2 (by decide))
    refine lv_aload_n hx hb d_P_order_41 rfl (lv_at hl 0 rfl) ?_
    refine lv_iload_n hx hb d_P_order_42 rfl (lv_at hl 1 rfl) ?_
    have hPc := hP
    have hDc := hD
    have hFc := va_free (wc := pW a cI cZ ring stops fewest (0 : Int32) shelves stopPlaces taken trial best) hD hS hA [0, 1, 2, 3, 4, 5] rfl
    refine va_callv (va_runV (As := [.int x1]) (rest := []) ⟨hx, hb, hml, hown, hts⟩ (c_P_followRule hw) (cwV 1 hts (gV k_P_followRule kw_7a4e9f0a kw_2ea75e25 kw_ef01abe9 kw_9924c1cf) rfl rfl rfl (by decide +kernel) ⟨(Nat.le_of_ble_eq_true rfl), (Nat.le_of_ble_eq_true rfl)⟩) ⟨kP.blind, va_recv hK hPc (ci := 1) (q0 := 0) rfl rfl, kP.of hK hPc hDc hZ hS hFc⟩ rfl rfl hl.1 rfl (lv_room (Nat.le_of_ble_eq_true rfl)) d_P_order_43 ⟨(Nat.le_of_ble_eq_true rfl), (Nat.le_of_ble_eq_true rfl)⟩) hS (fun q _ h => hFc q h) hFc (fun u t H1 locs ht hvm hw hB hz1 hk1 hS => ?_)
    obtain ⟨fewest_3, taken_4, best_5⟩ := u
    obtain ⟨hP1, hK1, hD1⟩ := hB
    try dsimp only at hw hP1 hD1
    rw [ht] at hP1
    have hK1 := va_K.moved hvm.symm hK1
    obtain ⟨hP, hD⟩ := va_join (wr := []) (w1 := pW a cI cZ ring stops fewest_3 (0 : Int32) shelves stopPlaces taken_4 trial best_5) hP hD [0, 1, 2, 3, 4, 5] [] rfl rfl (by decide) (by decide) hk1 hFc hP1 hD1
    generalize H1 = H at hP hS ⊢
    have hP : va_P D classes (pW a cI cZ ring stops fewest_3 (0 : Int32) shelves stopPlaces taken_4 trial best_5) H := hP
    have hD : va_D A (pW a cI cZ ring stops fewest_3 (0 : Int32) shelves stopPlaces taken_4 trial best_5) := hD
    refine lv_aload_n hx hb d_P_order_46 rfl (lv_at hl 0 rfl) ?_
    refine va_get (D := D) (ci := 1) (v := .int fewest_3) (C := R_P) (T := F_P) (N := 9) hx hb hts (iK iW_P) hown hK hP 0 rfl rfl 7 (by decide) (hts _ (kM kw_a1bcfc1f)) (fun _ h9 => h9) rfl d_P_order_47 ?_
    exact W.iret (v := fewest_3) hx hb hr (fun t ht hW => ⟨⟨fewest_3, (fewest_3, (0 : Int32), taken_4, trial, best_5), rfl, hw, by rw [ht]; exact hP, va_K.moved hW.alike hK, hD⟩, hS.F ht⟩) hS.2.2 d_P_order_50
  · have hw := hw.2 c_1
    refine lv_iconst (v := (1 : Int32)) hx hb d_P_order_9 (by decide) ?_
    refine lv_goto (tgt := 14) hx hb d_P_order_10 (by decide) ?_
    refine va_put (D := D) (ci := 1) (v := .int (1 : Int32)) (ty := .boolean) (C := R_P) (T := F_P) (N := 9) hx hb hts (iK iW_P) t_P t_P_ok n_P hown hK hP hD hS 0 rfl rfl 8 (by decide) (hts _ (kM kw_076ea5fa)) (fun _ h9 => h9) rfl (by decide +kernel) rfl rfl (Nat.le_of_ble_eq_true rfl) d_P_order_14 (fun H locs hP hD hS => ?_)
    have hP : va_P D classes (pW a cI cZ ring stops fewest (1 : Int32) shelves stopPlaces taken trial best) H := hP
    have hD : va_D A (pW a cI cZ ring stops fewest (1 : Int32) shelves stopPlaces taken trial best) := hD
    refine lv_aload_n hx hb d_P_order_17 rfl (lv_at hl 0 rfl) ?_
    refine va_get (D := D) (ci := 1) (v := .int (1 : Int32)) (C := R_P) (T := F_P) (N := 9) hx hb hts (iK iW_P) hown hK hP 0 rfl rfl 8 (by decide) (hts _ (kM kw_076ea5fa)) (fun _ h9 => h9) rfl d_P_order_18 ?_
    refine lv_if_eq (tgt := 41) hx hb d_P_order_21 (by decide) (fun c_6 => absurd c_6 (by decide)) (fun c_6 => ?_)
    refine lv_aload_n hx hb d_P_order_24 rfl (lv_at hl 0 rfl) ?_
    refine lv_sipush (v := (216 : Int32)) hx hb d_P_order_25 (by decide) ?_
    refine va_put (D := D) (ci := 1) (v := .int (216 : Int32)) (ty := .int) (C := R_P) (T := F_P) (N := 9) hx hb hts (iK iW_P) t_P t_P_ok n_P hown hK hP hD hS 0 rfl rfl 7 (by decide) (hts _ (kM kw_a1bcfc1f)) (fun _ h9 => h9) rfl (by decide +kernel) rfl rfl (Nat.le_of_ble_eq_true rfl) d_P_order_28 (fun H locs hP hD hS => ?_)
    have hP : va_P D classes (pW a cI cZ ring stops (216 : Int32) (1 : Int32) shelves stopPlaces taken trial best) H := hP
    have hD : va_D A (pW a cI cZ ring stops (216 : Int32) (1 : Int32) shelves stopPlaces taken trial best) := hD
    refine lv_aload_n hx hb d_P_order_31 rfl (lv_at hl 0 rfl) ?_
    refine lv_iconst (v := (0 : Int32)) hx hb d_P_order_32 (by decide) ?_
    refine lv_iload_n hx hb d_P_order_33 rfl (lv_at hl 1 rfl) ?_
    refine lv_iconst (v := (0 : Int32)) hx hb d_P_order_34 (by decide) ?_
    have hPc := hP
    have hDc := hD
    have hFc := va_free (wc := pW a cI cZ ring stops (216 : Int32) (1 : Int32) shelves stopPlaces taken trial best) hD hS hA [0, 1, 2, 3, 4, 5] rfl
    refine va_callv (va_runV (As := [.int (0 : Int32), .int x1, .int (0 : Int32)]) (rest := []) ⟨hx, hb, hml, hown, hts⟩ (c_P_tryAll 8 hw) (cwV 3 hts (gV k_P_tryAll kw_4325268a kw_00ff1f91 kw_97660d27 kw_9924c1cf) rfl rfl rfl (by decide +kernel) ⟨(Nat.le_of_ble_eq_true rfl), (Nat.le_of_ble_eq_true rfl)⟩) ⟨kP.blind, va_recv hK hPc (ci := 1) (q0 := 0) rfl rfl, kP.of hK hPc hDc hZ hS hFc⟩ rfl rfl hl.1 rfl (lv_room (Nat.le_of_ble_eq_true rfl)) d_P_order_35 ⟨(Nat.le_of_ble_eq_true rfl), (Nat.le_of_ble_eq_true rfl)⟩) hS (fun q _ h => hFc q h) hFc (fun u t H1 locs ht hvm hw hB hz1 hk1 hS => ?_)
    obtain ⟨fewest_7, taken_8, trial_9, best_10⟩ := u
    obtain ⟨hP1, hK1, hD1⟩ := hB
    try dsimp only at hw hP1 hD1
    rw [ht] at hP1
    have hK1 := va_K.moved hvm.symm hK1
    obtain ⟨hP, hD⟩ := va_join (wr := []) (w1 := pW a cI cZ ring stops fewest_7 (1 : Int32) shelves stopPlaces taken_8 trial_9 best_10) hP hD [0, 1, 2, 3, 4, 5] [] rfl rfl (by decide) (by decide) hk1 hFc hP1 hD1
    generalize H1 = H at hP hS ⊢
    have hP : va_P D classes (pW a cI cZ ring stops fewest_7 (1 : Int32) shelves stopPlaces taken_8 trial_9 best_10) H := hP
    have hD : va_D A (pW a cI cZ ring stops fewest_7 (1 : Int32) shelves stopPlaces taken_8 trial_9 best_10) := hD
    refine lv_goto (tgt := 46) hx hb d_P_order_38 (by decide) ?_
    refine lv_aload_n hx hb d_P_order_46 rfl (lv_at hl 0 rfl) ?_
    refine va_get (D := D) (ci := 1) (v := .int fewest_7) (C := R_P) (T := F_P) (N := 9) hx hb hts (iK iW_P) hown hK hP 0 rfl rfl 7 (by decide) (hts _ (kM kw_a1bcfc1f)) (fun _ h9 => h9) rfl d_P_order_47 ?_
    exact W.iret (v := fewest_7) hx hb hr (fun t ht hW => ⟨⟨fewest_7, (fewest_7, (1 : Int32), taken_8, trial_9, best_10), rfl, hw, by rw [ht]; exact hP, va_K.moved hW.alike hK, hD⟩, hS.F ht⟩) hS.2.2 d_P_order_50
