def p_C_plan_L22_B (places : Int32) (listed : Int32) (isBlocked : Nat → Int32) (shelfOf : Nat → Int32) (list : Nat → Int32) (stops : Int32) (fewest : Int32) (isExact : Int32) (shelves : Nat → Int32) (stopPlaces : Nat → Int32) (taken : Nat → Int32) (trial : Nat → Int32) (best : Nat → Int32) (pex : String → Int32 → Int32 → Int32 → (Nat → Int32) → (Nat → Int32) → (Nat → Int32) → (Nat → Int32) → (Nat → Int32) → Prop) (K_22 : Int32 → Prop) (rec_22 : Int32 → Prop) (x2_22 : Int32) : Prop := ((listed ≤ x2_22 → K_22 x2_22) ∧ (¬ listed ≤ x2_22 → (vp_in x2_22 8 ∧ (p_C_canBeFetched (list (x2_22).toNatClampNeg) places isBlocked shelfOf (fun r_5 => ((¬ r_5 = 0 → rec_22 (x2_22 + 1)) ∧ (r_5 = 0 → pex "java/lang/IllegalStateException" stops fewest isExact shelves stopPlaces taken trial best)))))))
def p_C_plan_L22 (places : Int32) (listed : Int32) (isBlocked : Nat → Int32) (shelfOf : Nat → Int32) (list : Nat → Int32) (stops : Int32) (fewest : Int32) (isExact : Int32) (shelves : Nat → Int32) (stopPlaces : Nat → Int32) (taken : Nat → Int32) (trial : Nat → Int32) (best : Nat → Int32) (pex : String → Int32 → Int32 → Int32 → (Nat → Int32) → (Nat → Int32) → (Nat → Int32) → (Nat → Int32) → (Nat → Int32) → Prop) (K_22 : Int32 → Prop) : Nat → Int32 → Prop
  | 0 => fun _ => False
  | n + 1 => p_C_plan_L22_B places listed isBlocked shelfOf list stops fewest isExact shelves stopPlaces taken trial best pex K_22 (p_C_plan_L22 places listed isBlocked shelfOf list stops fewest isExact shelves stopPlaces taken trial best pex K_22 n)
def p_C_plan_L68_B (places : Int32) (listed : Int32) (placeOf : Nat → Int32) (shelfOf : Nat → Int32) (list : Nat → Int32) (K_68 : Int32 → Int32 → (Nat → Int32) → (Nat → Int32) → (Nat → Int32) → Prop) (rec_68 : Int32 → Int32 → (Nat → Int32) → (Nat → Int32) → (Nat → Int32) → Prop) (x2_68 : Int32) (stops_68 : Int32) (shelves_68 : Nat → Int32) (stopPlaces_68 : Nat → Int32) (taken_68 : Nat → Int32) : Prop := ((places ≤ x2_68 → K_68 x2_68 stops_68 shelves_68 stopPlaces_68 taken_68) ∧ (¬ places ≤ x2_68 → (p_C_holdsListed x2_68 listed shelfOf list (fun r_16 => ((r_16 = 0 → rec_68 (x2_68 + 1) stops_68 shelves_68 stopPlaces_68 taken_68) ∧ (¬ r_16 = 0 → (vp_in x2_68 24 ∧ (p_P_addStop x2_68 (placeOf (x2_68).toNatClampNeg) stops_68 shelves_68 stopPlaces_68 taken_68 (fun stops_19 shelves_20 stopPlaces_21 taken_22 => rec_68 (x2_68 + 1) stops_19 shelves_20 stopPlaces_21 taken_22)))))))))
def p_C_plan_L68 (places : Int32) (listed : Int32) (placeOf : Nat → Int32) (shelfOf : Nat → Int32) (list : Nat → Int32) (K_68 : Int32 → Int32 → (Nat → Int32) → (Nat → Int32) → (Nat → Int32) → Prop) : Nat → Int32 → Int32 → (Nat → Int32) → (Nat → Int32) → (Nat → Int32) → Prop
  | 0 => fun _ _ _ _ _ => False
  | n + 1 => p_C_plan_L68_B places listed placeOf shelfOf list K_68 (p_C_plan_L68 places listed placeOf shelfOf list K_68 n)
def p_C_plan (x1 : Int32) (places : Int32) (listed : Int32) (front : Int32) (placeOf : Nat → Int32) (isBlocked : Nat → Int32) (shelfOf : Nat → Int32) (list : Nat → Int32) (ring : Int32) (stops : Int32) (fewest : Int32) (isExact : Int32) (shelves : Nat → Int32) (stopPlaces : Nat → Int32) (taken : Nat → Int32) (trial : Nat → Int32) (best : Nat → Int32) (post : Int32 → Int32 → Int32 → Int32 → (Nat → Int32) → (Nat → Int32) → (Nat → Int32) → (Nat → Int32) → (Nat → Int32) → Prop) (pex : String → Int32 → Int32 → Int32 → (Nat → Int32) → (Nat → Int32) → (Nat → Int32) → (Nat → Int32) → (Nat → Int32) → Prop) : Prop := ((x1 < 0 → pex "java/lang/IllegalArgumentException" stops fewest isExact shelves stopPlaces taken trial best) ∧ (¬ x1 < 0 → ((x1 ≤ (6 : Int32) → (∃ n, p_C_plan_L22 places listed isBlocked shelfOf list stops fewest isExact shelves stopPlaces taken trial best pex (fun (k_12 : Int32) => (p_P_forget (fun stops_13 isExact_14 => (∃ n, p_C_plan_L68 places listed placeOf shelfOf list (fun (k_36 : Int32) (k_37 : Int32) (k_38 : Nat → Int32) (k_39 : Nat → Int32) (k_40 : Nat → Int32) => (p_P_order front x1 ring k_37 k_38 k_39 k_40 trial best (fun r_41 fewest_42 isExact_43 taken_44 trial_45 best_46 => post r_41 k_37 fewest_42 isExact_43 k_38 k_39 taken_44 trial_45 best_46))) n (0 : Int32) stops_13 shelves stopPlaces taken)))) n (0 : Int32))) ∧ (¬ x1 ≤ (6 : Int32) → pex "java/lang/IllegalArgumentException" stops fewest isExact shelves stopPlaces taken trial best))))
abbrev rm_C_plan : Room := { frames := 12, cells := 2, slots := 12, locals := 429 }
set_option maxHeartbeats 4000000 in
set_option maxRecDepth 100000 in
theorem c_C_plan {l : Launch} (hl9 : l.stackTraces = false) {D : va_G} {sa : Nat → Nat} {cI cZ : ClassId} {sz : Nat} {a : Nat → Nat} {places : Int32} {listed : Int32} {front : Int32} {turns : Int32} {fetched : Int32} {placeOf : Nat → Int32} {shelfAt : Nat → Int32} {isBlocked : Nat → Int32} {shelfOf : Nat → Int32} {counts : Nat → Int32} {isOpen : Nat → Int32} {list : Nat → Int32} {ring : Int32} {stops : Int32} {fewest : Int32} {isExact : Int32} {shelves : Nat → Int32} {stopPlaces : Nat → Int32} {taken : Nat → Int32} {trial : Nat → Int32} {best : Nat → Int32} {x1 : Int32} {post : Int32 → Int32 → Int32 → Int32 → (Nat → Int32) → (Nat → Int32) → (Nat → Int32) → (Nat → Int32) → (Nat → Int32) → Prop} {pex : String → Int32 → Int32 → Int32 → (Nat → Int32) → (Nat → Int32) → (Nat → Int32) → (Nat → Int32) → (Nat → Int32) → Prop} (hw : p_C_plan x1 places listed front placeOf isBlocked shelfOf list ring stops fewest isExact shelves stopPlaces taken trial best post pex) : vx_Met l y_C_plan w_C_plan rm_C_plan (va_Pc [.ref (a 0), .int x1] (kP D sa [(cI, .int), (cZ, .boolean)] (cW a cI cZ places listed front turns fetched placeOf shelfAt isBlocked shelfOf counts isOpen list ring stops fewest isExact shelves stopPlaces taken trial best) sz)) (va_Qi (fun r (u : Int32 × Int32 × Int32 × (Nat → Int32) × (Nat → Int32) × (Nat → Int32) × (Nat → Int32) × (Nat → Int32)) => post r u.1 u.2.1 u.2.2.1 u.2.2.2.1 u.2.2.2.2.1 u.2.2.2.2.2.1 u.2.2.2.2.2.2.1 u.2.2.2.2.2.2.2) (fun (u : Int32 × Int32 × Int32 × (Nat → Int32) × (Nat → Int32) × (Nat → Int32) × (Nat → Int32) × (Nat → Int32)) t => va_P D classes (cW a cI cZ places listed front turns fetched placeOf shelfAt isBlocked shelfOf counts isOpen list ring u.1 u.2.1 u.2.2.1 u.2.2.2.1 u.2.2.2.2.1 u.2.2.2.2.2.1 u.2.2.2.2.2.2.1 u.2.2.2.2.2.2.2) t.heap ∧ va_K D classes [(cI, .int), (cZ, .boolean)] t ∧ va_D (va_A (cW a cI cZ places listed front turns fetched placeOf shelfAt isBlocked shelfOf counts isOpen list ring stops fewest isExact shelves stopPlaces taken trial best) sz) (cW a cI cZ places listed front turns fetched placeOf shelfAt isBlocked shelfOf counts isOpen list ring u.1 u.2.1 u.2.2.1 u.2.2.2.1 u.2.2.2.2.1 u.2.2.2.2.2.1 u.2.2.2.2.2.2.1 u.2.2.2.2.2.2.2)) (va_A (cW a cI cZ places listed front turns fetched placeOf shelfAt isBlocked shelfOf counts isOpen list ring stops fewest isExact shelves stopPlaces taken trial best) sz)) (vx_X (fun (u : String × Int32 × Int32 × Int32 × (Nat → Int32) × (Nat → Int32) × (Nat → Int32) × (Nat → Int32) × (Nat → Int32)) => pex u.1 u.2.1 u.2.2.1 u.2.2.2.1 u.2.2.2.2.1 u.2.2.2.2.2.1 u.2.2.2.2.2.2.1 u.2.2.2.2.2.2.2.1 u.2.2.2.2.2.2.2.2) (fun E (u : String × Int32 × Int32 × Int32 × (Nat → Int32) × (Nat → Int32) × (Nat → Int32) × (Nat → Int32) × (Nat → Int32)) t => u.1 = E ∧ va_P D classes (cW a cI cZ places listed front turns fetched placeOf shelfAt isBlocked shelfOf counts isOpen list ring u.2.1 u.2.2.1 u.2.2.2.1 u.2.2.2.2.1 u.2.2.2.2.2.1 u.2.2.2.2.2.2.1 u.2.2.2.2.2.2.2.1 u.2.2.2.2.2.2.2.2) t.heap ∧ va_K D classes [(cI, .int), (cZ, .boolean)] t ∧ va_D (va_A (cW a cI cZ places listed front turns fetched placeOf shelfAt isBlocked shelfOf counts isOpen list ring stops fewest isExact shelves stopPlaces taken trial best) sz) (cW a cI cZ places listed front turns fetched placeOf shelfAt isBlocked shelfOf counts isOpen list ring u.2.1 u.2.2.1 u.2.2.2.1 u.2.2.2.2.1 u.2.2.2.2.2.1 u.2.2.2.2.2.2.1 u.2.2.2.2.2.2.2.1 u.2.2.2.2.2.2.2.2)) (va_A (cW a cI cZ places listed front turns fetched placeOf shelfAt isBlocked shelfOf counts isOpen list ring stops fewest isExact shelves stopPlaces taken trial best) sz)) 2 12 (va_A (cW a cI cZ places listed front turns fetched placeOf shelfAt isBlocked shelfOf counts isOpen list ring stops fewest isExact shelves stopPlaces taken trial best) sz) := by
  refine vx_ofW (cc := b_C_plan) (maxL := 3) (ret := (some .int)) (by decide) rfl ?_
  intro p e s m args below meth c s₁ B hml hEx hv
  obtain ⟨rfl, hsz, hP, hK, hD0, hZ⟩ := hv
  have hx := B.exec
  have hb := B.bytes
  have hr := B.returns
  have hts := atoms_spec (ws := w_C_plan) B.pre
  have hown : s.vm.findClass R_C = some m.cls := findClass_of_methodNamed B.named
  have hlocks := B.notSynchronized
  subst hsz
  have hD := hD0.self (sz := s.heap.size)
  generalize hAe : (va_A (cW a cI cZ places listed front turns fetched placeOf shelfAt isBlocked shelfOf counts isOpen list ring stops fewest isExact shelves stopPlaces taken trial best) s.heap.size) = A at hD hZ ⊢
  have hA : ∀ q : Nat, s.heap.size ≤ q → A q := fun q h => by rw [← hAe]; exact Or.inr h
  have hS : va_S A s.heap s.heap [] := va_S.rf
  have hl := lv_entry ([.ref (a 0), .int x1]) (n := 3) (Nat.le_of_ble_eq_true rfl)
  rw [lg_entry_eq]
  generalize (lg_sl ([.ref (a 0), .int x1]) ++ List.replicate (3 - (lg_sl ([.ref (a 0), .int x1])).length) Slot.unset).toArray = ls at hl ⊢
  have hl : lv_has ls 3 [(0, .ref (a 0)), (1, .int x1)] := hl
  refine lv_iload_n hx hb d_C_plan_0 rfl (lv_at hl 1 rfl) ?_
  refine lv_if_lt (tgt := 10) hx hb d_C_plan_1 (by decide) (fun c_1 => ?_) (fun c_1 => ?_)
  · have hw := hw.1 c_1
    exact vx_throwS (own := R_C) (cls := "java/lang/IllegalArgumentException") (names := exN) hx hb hl9 hown (by decide +kernel) (by decide +kernel) (hts _ (kM kw_bedd2d32)) (hts _ (kM kw_ed8d893e)) (hZ.s 10 rfl) (ta_C_IllegalArgumentException (fun w h => hts w (kM h)) hZ) tg_C_IllegalArgumentException hZ.u hZ.n hS (hl.1.trans hml.symm) d_C_plan_10 d_C_plan_13 d_C_plan_14 d_C_plan_16 d_C_plan_19 (fun x hx => (hEx x hx).elim) (Nat.le_of_ble_eq_true rfl) (Nat.le_of_ble_eq_true rfl) (Nat.le_of_ble_eq_true rfl) (Nat.le_of_ble_eq_true rfl) hlocks (fun t ha hsz hk => ⟨("java/lang/IllegalArgumentException", stops, fewest, isExact, shelves, stopPlaces, taken, trial, best), hw, ⟨rfl, hP.kept (fun k q hq => hk q.1 (hP k q hq).lt), va_K.moved ha hK, hD⟩, Nat.le_trans hS.1 hsz, fun q h1 h2 => (hk q (Nat.lt_of_lt_of_le h1 hS.1)).trans (hS.2.1 q h1 h2)⟩) hS.2.2 (Nat.le_of_ble_eq_true rfl) (Nat.le_of_ble_eq_true rfl)
  · have hw := hw.2 c_1
    refine lv_iload_n hx hb d_C_plan_4 rfl (lv_at hl 1 rfl) ?_
    refine lv_bipush (v := (6 : Int32)) hx hb d_C_plan_5 (by decide) ?_
    refine lv_icmp_le (tgt := 20) hx hb d_C_plan_7 (by decide) (fun c_2 => ?_) (fun c_2 => ?_)
    · have hw := hw.1 c_2
      refine lv_iconst (v := (0 : Int32)) hx hb d_C_plan_20 (by decide) ?_
      refine lv_istore_n (lv' := [(2, .int (0 : Int32)), (0, .ref (a 0)), (1, .int x1)]) hx hb d_C_plan_21 rfl hl (by decide) rfl (fun ls hl => ?_)
      obtain ⟨K_22, hK_22⟩ : ∃ z : Int32 → Prop, z = (fun (k_12 : Int32) => (p_P_forget (fun stops_13 isExact_14 => (∃ n, p_C_plan_L68 places listed placeOf shelfOf list (fun (k_36 : Int32) (k_37 : Int32) (k_38 : Nat → Int32) (k_39 : Nat → Int32) (k_40 : Nat → Int32) => (p_P_order front x1 ring k_37 k_38 k_39 k_40 trial best (fun r_41 fewest_42 isExact_43 taken_44 trial_45 best_46 => post r_41 k_37 fewest_42 isExact_43 k_38 k_39 taken_44 trial_45 best_46))) n (0 : Int32) stops_13 shelves stopPlaces taken)))) := ⟨_, rfl⟩
      have hw : ∃ n, p_C_plan_L22 places listed isBlocked shelfOf list stops fewest isExact shelves stopPlaces taken trial best pex K_22 n (0 : Int32) := by rw [hK_22]; exact hw
      obtain ⟨n_22, hw⟩ := hw
      have key_22 : ∀ (n : Nat) (x2_7 : Int32) (ls : Array Slot), p_C_plan_L22 places listed isBlocked shelfOf list stops fewest isExact shelves stopPlaces taken trial best pex K_22 n x2_7 → lv_has ls 3 [(2, .int x2_7), (0, .ref (a 0)), (1, .int x1)] → W p l e (headSpec w_C_plan rm_C_plan).room s m ([.ref (a 0), .int x1] : List Value).toArray below meth c s.heap [] 0 0 (vx_MQ below (va_Qi (fun r (u : Int32 × Int32 × Int32 × (Nat → Int32) × (Nat → Int32) × (Nat → Int32) × (Nat → Int32) × (Nat → Int32)) => post r u.1 u.2.1 u.2.2.1 u.2.2.2.1 u.2.2.2.2.1 u.2.2.2.2.2.1 u.2.2.2.2.2.2.1 u.2.2.2.2.2.2.2) (fun (u : Int32 × Int32 × Int32 × (Nat → Int32) × (Nat → Int32) × (Nat → Int32) × (Nat → Int32) × (Nat → Int32)) t => va_P D classes (cW a cI cZ places listed front turns fetched placeOf shelfAt isBlocked shelfOf counts isOpen list ring u.1 u.2.1 u.2.2.1 u.2.2.2.1 u.2.2.2.2.1 u.2.2.2.2.2.1 u.2.2.2.2.2.2.1 u.2.2.2.2.2.2.2) t.heap ∧ va_K D classes [(cI, .int), (cZ, .boolean)] t ∧ va_D A (cW a cI cZ places listed front turns fetched placeOf shelfAt isBlocked shelfOf counts isOpen list ring u.1 u.2.1 u.2.2.1 u.2.2.2.1 u.2.2.2.2.1 u.2.2.2.2.2.1 u.2.2.2.2.2.2.1 u.2.2.2.2.2.2.2)) A) (vx_X (fun (u : String × Int32 × Int32 × Int32 × (Nat → Int32) × (Nat → Int32) × (Nat → Int32) × (Nat → Int32) × (Nat → Int32)) => pex u.1 u.2.1 u.2.2.1 u.2.2.2.1 u.2.2.2.2.1 u.2.2.2.2.2.1 u.2.2.2.2.2.2.1 u.2.2.2.2.2.2.2.1 u.2.2.2.2.2.2.2.2) (fun E (u : String × Int32 × Int32 × Int32 × (Nat → Int32) × (Nat → Int32) × (Nat → Int32) × (Nat → Int32) × (Nat → Int32)) t => u.1 = E ∧ va_P D classes (cW a cI cZ places listed front turns fetched placeOf shelfAt isBlocked shelfOf counts isOpen list ring u.2.1 u.2.2.1 u.2.2.2.1 u.2.2.2.2.1 u.2.2.2.2.2.1 u.2.2.2.2.2.2.1 u.2.2.2.2.2.2.2.1 u.2.2.2.2.2.2.2.2) t.heap ∧ va_K D classes [(cI, .int), (cZ, .boolean)] t ∧ va_D A (cW a cI cZ places listed front turns fetched placeOf shelfAt isBlocked shelfOf counts isOpen list ring u.2.1 u.2.2.1 u.2.2.2.1 u.2.2.2.2.1 u.2.2.2.2.2.1 u.2.2.2.2.2.2.1 u.2.2.2.2.2.2.2.1 u.2.2.2.2.2.2.2.2)) A) ([.ref (a 0), .int x1] : List Value).toArray s 2 12 A) (F0 m 22 ls []) := by
        intro n
        induction n with
        | zero => intro x2_7 ls hw hl; exact hw.elim
        | succ n ih_22 =>
          intro x2_7 ls hw hl
          have hw : p_C_plan_L22_B places listed isBlocked shelfOf list stops fewest isExact shelves stopPlaces taken trial best pex K_22 (p_C_plan_L22 places listed isBlocked shelfOf list stops fewest isExact shelves stopPlaces taken trial best pex K_22 n) x2_7 := hw
          generalize p_C_plan_L22 places listed isBlocked shelfOf list stops fewest isExact shelves stopPlaces taken trial best pex K_22 n = rec_22 at hw ih_22
          refine lv_iload_n hx hb d_C_plan_22 rfl (lv_at hl 0 rfl) ?_
          refine lv_aload_n hx hb d_C_plan_23 rfl (lv_at hl 1 rfl) ?_
          refine va_get (D := D) (ci := 0) (v := .int listed) (C := R_C) (T := F_C) (N := 13) hx hb hts (iK iW_C) hown hK hP 0 rfl rfl 9 (by decide) (hts _ (kM kw_f614f36e)) (fun _ h9 => h9) rfl d_C_plan_24 ?_
          refine lv_icmp_ge (tgt := 59) hx hb d_C_plan_27 (by decide) (fun c_8 => ?_) (fun c_8 => ?_)
          · have hw := hw.1 c_8
            rw [hK_22] at hw
            have hl : lv_has ls 3 [(2, .int x2_7), (0, .ref (a 0)), (1, .int x1)] := lv_sub hl [0, 1, 2] rfl
            refine lv_aload_n hx hb d_C_plan_59 rfl (lv_at hl 1 rfl) ?_
            refine va_get (D := D) (ci := 0) (v := .ref (a 8)) (C := R_C) (T := F_C) (N := 13) hx hb hts (iK iW_C) hown hK hP 0 rfl rfl 8 (by decide) (hts _ (kM kw_e53eb332)) (fun _ h9 => h9) rfl d_C_plan_60 ?_
            have hPc := hP.sub (ws' := pW a cI cZ ring stops fewest isExact shelves stopPlaces taken trial best) [8, 9, 10, 11, 12, 13] rfl
            have hDc := hD.sub (ws' := pW a cI cZ ring stops fewest isExact shelves stopPlaces taken trial best) [8, 9, 10, 11, 12, 13] (by decide) rfl
            have hFc := va_free (wc := pW a cI cZ ring stops fewest isExact shelves stopPlaces taken trial best) hD hS hA [8, 9, 10, 11, 12, 13] rfl
            refine va_callv (va_runVN (As := []) (rest := []) ⟨hx, hb, hml, hown, hts⟩ (c_P_forget hw) ⟨va_cnB 0 hts (gC k_P_forget) rfl rfl rfl (hZ.m (.methodLinkNest R_C 117 y_P_forget R_C) (by decide +kernel)) (hts _ (kM kw_9924c1cf)) (by decide +kernel) ⟨(Nat.le_of_ble_eq_true rfl), (Nat.le_of_ble_eq_true rfl)⟩, (hts _ (kM kw_6b19e3e1)), (hts _ (kM kw_9f896de2))⟩ ⟨kP.blind, va_recv hK hPc (ci := 1) (q0 := 0) rfl rfl, kP.of hK hPc hDc hZ hS hFc⟩ rfl rfl hl.1 rfl (lv_room (Nat.le_of_ble_eq_true rfl)) d_C_plan_63 ⟨(Nat.le_of_ble_eq_true rfl), (Nat.le_of_ble_eq_true rfl)⟩) hS (fun q _ h => hFc q h) hFc (fun u t H1 locs ht hvm hw hB hz1 hk1 hS => ?_)
            obtain ⟨stops_13, isExact_14⟩ := u
            obtain ⟨hP1, hK1, hD1⟩ := hB
            try dsimp only at hw hP1 hD1
            rw [ht] at hP1
            have hK1 := va_K.moved hvm.symm hK1
            obtain ⟨hP, hD⟩ := va_join (wr := [((a 0), .inr (0, [.int places, .ref (a 1), .ref (a 2), .ref (a 3), .ref (a 4), .ref (a 5), .ref (a 6), .ref (a 7), .ref (a 8), .int listed, .int front, .int turns, .int fetched])), ((a 1), .inl (cI, 24, .inl placeOf)), ((a 2), .inl (cI, 24, .inl shelfAt)), ((a 3), .inl (cZ, 24, .inl isBlocked)), ((a 4), .inl (cI, 20, .inl shelfOf)), ((a 5), .inl (cI, 20, .inl counts)), ((a 6), .inl (cZ, 2, .inl isOpen)), ((a 7), .inl (cI, 8, .inl list))]) (w1 := pW a cI cZ ring stops_13 fewest isExact_14 shelves stopPlaces taken trial best) hP hD [8, 9, 10, 11, 12, 13] [0, 1, 2, 3, 4, 5, 6, 7] rfl rfl (by decide) (by decide) hk1 hFc hP1 hD1
            generalize H1 = H at hP hS ⊢
            have hP : va_P D classes (cW a cI cZ places listed front turns fetched placeOf shelfAt isBlocked shelfOf counts isOpen list ring stops_13 fewest isExact_14 shelves stopPlaces taken trial best) H := hP
            have hD : va_D A (cW a cI cZ places listed front turns fetched placeOf shelfAt isBlocked shelfOf counts isOpen list ring stops_13 fewest isExact_14 shelves stopPlaces taken trial best) := hD
            refine lv_iconst (v := (0 : Int32)) hx hb d_C_plan_66 (by decide) ?_
            refine lv_istore_n (lv' := [(2, .int (0 : Int32)), (0, .ref (a 0)), (1, .int x1)]) hx hb d_C_plan_67 rfl hl (by decide) rfl (fun ls hl => ?_)
            obtain ⟨K_68, hK_68⟩ : ∃ z : Int32 → Int32 → (Nat → Int32) → (Nat → Int32) → (Nat → Int32) → Prop, z = (fun (k_36 : Int32) (k_37 : Int32) (k_38 : Nat → Int32) (k_39 : Nat → Int32) (k_40 : Nat → Int32) => (p_P_order front x1 ring k_37 k_38 k_39 k_40 trial best (fun r_41 fewest_42 isExact_43 taken_44 trial_45 best_46 => post r_41 k_37 fewest_42 isExact_43 k_38 k_39 taken_44 trial_45 best_46))) := ⟨_, rfl⟩
            have hw : ∃ n, p_C_plan_L68 places listed placeOf shelfOf list K_68 n (0 : Int32) stops_13 shelves stopPlaces taken := by rw [hK_68]; exact hw
            obtain ⟨n_68, hw⟩ := hw
            have key_68 : ∀ (n : Nat) (x2_23 : Int32) (stops_24 : Int32) (shelves_25 : Nat → Int32) (stopPlaces_26 : Nat → Int32) (taken_27 : Nat → Int32) (H : Heap) (locs : List Loc) (ls : Array Slot), p_C_plan_L68 places listed placeOf shelfOf list K_68 n x2_23 stops_24 shelves_25 stopPlaces_26 taken_27 → va_P D classes (cW a cI cZ places listed front turns fetched placeOf shelfAt isBlocked shelfOf counts isOpen list ring stops_24 fewest isExact_14 shelves_25 stopPlaces_26 taken_27 trial best) H → va_D A (cW a cI cZ places listed front turns fetched placeOf shelfAt isBlocked shelfOf counts isOpen list ring stops_24 fewest isExact_14 shelves_25 stopPlaces_26 taken_27 trial best) → va_S A s.heap H locs → lv_has ls 3 [(2, .int x2_23), (0, .ref (a 0)), (1, .int x1)] → W p l e (headSpec w_C_plan rm_C_plan).room s m ([.ref (a 0), .int x1] : List Value).toArray below meth c H locs 0 0 (vx_MQ below (va_Qi (fun r (u : Int32 × Int32 × Int32 × (Nat → Int32) × (Nat → Int32) × (Nat → Int32) × (Nat → Int32) × (Nat → Int32)) => post r u.1 u.2.1 u.2.2.1 u.2.2.2.1 u.2.2.2.2.1 u.2.2.2.2.2.1 u.2.2.2.2.2.2.1 u.2.2.2.2.2.2.2) (fun (u : Int32 × Int32 × Int32 × (Nat → Int32) × (Nat → Int32) × (Nat → Int32) × (Nat → Int32) × (Nat → Int32)) t => va_P D classes (cW a cI cZ places listed front turns fetched placeOf shelfAt isBlocked shelfOf counts isOpen list ring u.1 u.2.1 u.2.2.1 u.2.2.2.1 u.2.2.2.2.1 u.2.2.2.2.2.1 u.2.2.2.2.2.2.1 u.2.2.2.2.2.2.2) t.heap ∧ va_K D classes [(cI, .int), (cZ, .boolean)] t ∧ va_D A (cW a cI cZ places listed front turns fetched placeOf shelfAt isBlocked shelfOf counts isOpen list ring u.1 u.2.1 u.2.2.1 u.2.2.2.1 u.2.2.2.2.1 u.2.2.2.2.2.1 u.2.2.2.2.2.2.1 u.2.2.2.2.2.2.2)) A) (vx_X (fun (u : String × Int32 × Int32 × Int32 × (Nat → Int32) × (Nat → Int32) × (Nat → Int32) × (Nat → Int32) × (Nat → Int32)) => pex u.1 u.2.1 u.2.2.1 u.2.2.2.1 u.2.2.2.2.1 u.2.2.2.2.2.1 u.2.2.2.2.2.2.1 u.2.2.2.2.2.2.2.1 u.2.2.2.2.2.2.2.2) (fun E (u : String × Int32 × Int32 × Int32 × (Nat → Int32) × (Nat → Int32) × (Nat → Int32) × (Nat → Int32) × (Nat → Int32)) t => u.1 = E ∧ va_P D classes (cW a cI cZ places listed front turns fetched placeOf shelfAt isBlocked shelfOf counts isOpen list ring u.2.1 u.2.2.1 u.2.2.2.1 u.2.2.2.2.1 u.2.2.2.2.2.1 u.2.2.2.2.2.2.1 u.2.2.2.2.2.2.2.1 u.2.2.2.2.2.2.2.2) t.heap ∧ va_K D classes [(cI, .int), (cZ, .boolean)] t ∧ va_D A (cW a cI cZ places listed front turns fetched placeOf shelfAt isBlocked shelfOf counts isOpen list ring u.2.1 u.2.2.1 u.2.2.2.1 u.2.2.2.2.1 u.2.2.2.2.2.1 u.2.2.2.2.2.2.1 u.2.2.2.2.2.2.2.1 u.2.2.2.2.2.2.2.2)) A) ([.ref (a 0), .int x1] : List Value).toArray s 2 12 A) (F0 m 68 ls []) := by
              intro n
              induction n with
              | zero => intro x2_23 stops_24 shelves_25 stopPlaces_26 taken_27 H locs ls hw hP hD hS hl; exact hw.elim
              | succ n ih_68 =>
                intro x2_23 stops_24 shelves_25 stopPlaces_26 taken_27 H locs ls hw hP hD hS hl
                have hw : p_C_plan_L68_B places listed placeOf shelfOf list K_68 (p_C_plan_L68 places listed placeOf shelfOf list K_68 n) x2_23 stops_24 shelves_25 stopPlaces_26 taken_27 := hw
                generalize p_C_plan_L68 places listed placeOf shelfOf list K_68 n = rec_68 at hw ih_68
                refine lv_iload_n hx hb d_C_plan_68 rfl (lv_at hl 0 rfl) ?_
                refine lv_aload_n hx hb d_C_plan_69 rfl (lv_at hl 1 rfl) ?_
                refine va_get (D := D) (ci := 0) (v := .int places) (C := R_C) (T := F_C) (N := 13) hx hb hts (iK iW_C) hown hK hP 0 rfl rfl 0 (by decide) (hts _ (kM kw_e5f6e787)) (fun _ h9 => h9) rfl d_C_plan_70 ?_
                refine lv_icmp_ge (tgt := 104) hx hb d_C_plan_73 (by decide) (fun c_28 => ?_) (fun c_28 => ?_)
                · have hw := hw.1 c_28
                  rw [hK_68] at hw
                  have hl : lv_has ls 3 [(2, .int x2_23), (0, .ref (a 0)), (1, .int x1)] := lv_sub hl [0, 1, 2] rfl
                  refine lv_aload_n hx hb d_C_plan_104 rfl (lv_at hl 1 rfl) ?_
                  refine va_get (D := D) (ci := 0) (v := .ref (a 8)) (C := R_C) (T := F_C) (N := 13) hx hb hts (iK iW_C) hown hK hP 0 rfl rfl 8 (by decide) (hts _ (kM kw_e53eb332)) (fun _ h9 => h9) rfl d_C_plan_105 ?_
                  refine lv_aload_n hx hb d_C_plan_108 rfl (lv_at hl 1 rfl) ?_
                  refine va_get (D := D) (ci := 0) (v := .int front) (C := R_C) (T := F_C) (N := 13) hx hb hts (iK iW_C) hown hK hP 0 rfl rfl 10 (by decide) (hts _ (kM kw_e1db8a3f)) (fun _ h9 => h9) rfl d_C_plan_109 ?_
                  refine lv_iload_n hx hb d_C_plan_112 rfl (lv_at hl 2 rfl) ?_
                  have hPc := hP.sub (ws' := pW a cI cZ ring stops_24 fewest isExact_14 shelves_25 stopPlaces_26 taken_27 trial best) [8, 9, 10, 11, 12, 13] rfl
                  have hDc := hD.sub (ws' := pW a cI cZ ring stops_24 fewest isExact_14 shelves_25 stopPlaces_26 taken_27 trial best) [8, 9, 10, 11, 12, 13] (by decide) rfl
                  have hFc := va_free (wc := pW a cI cZ ring stops_24 fewest isExact_14 shelves_25 stopPlaces_26 taken_27 trial best) hD hS hA [8, 9, 10, 11, 12, 13] rfl
                  refine va_calli (va_runVN (As := [.int front, .int x1]) (rest := []) ⟨hx, hb, hml, hown, hts⟩ (c_P_order hw) ⟨va_cnB 2 hts (gC k_P_order) rfl rfl rfl (hZ.m (.methodLinkNest R_C 127 y_P_order R_C) (by decide +kernel)) (hts _ (kM kw_9924c1cf)) (by decide +kernel) ⟨(Nat.le_of_ble_eq_true rfl), (Nat.le_of_ble_eq_true rfl)⟩, (hts _ (kM kw_67d6dcb5)), (hts _ (kM kw_79efb11e))⟩ ⟨kP.blind, va_recv hK hPc (ci := 1) (q0 := 0) rfl rfl, kP.of hK hPc hDc hZ hS hFc⟩ rfl rfl hl.1 rfl (lv_room (Nat.le_of_ble_eq_true rfl)) d_C_plan_113 ⟨(Nat.le_of_ble_eq_true rfl), (Nat.le_of_ble_eq_true rfl)⟩) hS (fun q _ h => hFc q h) hFc (fun r_41 u t H1 locs ht hvm hw hB hz1 hk1 hS => ?_)
                  obtain ⟨fewest_42, isExact_43, taken_44, trial_45, best_46⟩ := u
                  obtain ⟨hP1, hK1, hD1⟩ := hB
                  try dsimp only at hw hP1 hD1
                  rw [ht] at hP1
                  have hK1 := va_K.moved hvm.symm hK1
                  obtain ⟨hP, hD⟩ := va_join (wr := [((a 0), .inr (0, [.int places, .ref (a 1), .ref (a 2), .ref (a 3), .ref (a 4), .ref (a 5), .ref (a 6), .ref (a 7), .ref (a 8), .int listed, .int front, .int turns, .int fetched])), ((a 1), .inl (cI, 24, .inl placeOf)), ((a 2), .inl (cI, 24, .inl shelfAt)), ((a 3), .inl (cZ, 24, .inl isBlocked)), ((a 4), .inl (cI, 20, .inl shelfOf)), ((a 5), .inl (cI, 20, .inl counts)), ((a 6), .inl (cZ, 2, .inl isOpen)), ((a 7), .inl (cI, 8, .inl list))]) (w1 := pW a cI cZ ring stops_24 fewest_42 isExact_43 shelves_25 stopPlaces_26 taken_44 trial_45 best_46) hP hD [8, 9, 10, 11, 12, 13] [0, 1, 2, 3, 4, 5, 6, 7] rfl rfl (by decide) (by decide) hk1 hFc hP1 hD1
                  generalize H1 = H at hP hS ⊢
                  have hP : va_P D classes (cW a cI cZ places listed front turns fetched placeOf shelfAt isBlocked shelfOf counts isOpen list ring stops_24 fewest_42 isExact_43 shelves_25 stopPlaces_26 taken_44 trial_45 best_46) H := hP
                  have hD : va_D A (cW a cI cZ places listed front turns fetched placeOf shelfAt isBlocked shelfOf counts isOpen list ring stops_24 fewest_42 isExact_43 shelves_25 stopPlaces_26 taken_44 trial_45 best_46) := hD
                  refine W.widen (k := 2) (n := 12) (Nat.le_of_ble_eq_true rfl) (Nat.le_of_ble_eq_true rfl) ?_
                  refine vx_ret ?_
                  exact W.iret (v := r_41) hx hb hr (fun t ht hW => ⟨⟨r_41, (stops_24, fewest_42, isExact_43, shelves_25, stopPlaces_26, taken_44, trial_45, best_46), rfl, hw, by rw [ht]; exact hP, va_K.moved hW.alike hK, hD⟩, hS.F ht⟩) hS.2.2 d_C_plan_116
                · have hw := hw.2 c_28
                  refine lv_aload_n hx hb d_C_plan_76 rfl (lv_at hl 1 rfl) ?_
                  refine lv_iload_n hx hb d_C_plan_77 rfl (lv_at hl 0 rfl) ?_
                  have hPc := hP
                  have hDc := hD
                  have hFc := va_free (wc := cW a cI cZ places listed front turns fetched placeOf shelfAt isBlocked shelfOf counts isOpen list ring stops_24 fewest isExact_14 shelves_25 stopPlaces_26 taken_27 trial best) hD hS hA [0, 1, 2, 3, 4, 5, 6, 7, 8, 9, 10, 11, 12, 13] rfl
                  refine vp_callSi (W.runV (As := [.int x2_23]) (rest := []) ⟨hx, hb, hml, hown, hts⟩ (c_C_holdsListed hw) (cwV 1 hts (gV k_C_holdsListed kw_17813e17 kw_f343cd58 kw_5a345678 kw_91859716) rfl rfl rfl (by decide +kernel) ⟨(Nat.le_of_ble_eq_true rfl), (Nat.le_of_ble_eq_true rfl)⟩) ⟨kP.blind, va_recv hK hPc (ci := 0) (q0 := 0) rfl rfl, kP.of hK hPc hDc hZ hS hFc⟩ rfl rfl hl.1 rfl (lv_room (Nat.le_of_ble_eq_true rfl)) d_C_plan_78 ⟨(Nat.le_of_ble_eq_true rfl), (Nat.le_of_ble_eq_true rfl)⟩) (fun r_29 hw => ?_)
                  refine lv_if_eq (tgt := 98) hx hb d_C_plan_81 (by decide) (fun c_30 => ?_) (fun c_30 => ?_)
                  · have hw := hw.1 c_30
                    refine lv_iinc (v := (x2_23 + 1)) (lv' := [(2, .int (x2_23 + 1)), (0, .ref (a 0)), (1, .int x1)]) hx hb d_C_plan_98 hl (k := 0) rfl rfl (by decide) rfl (fun ls hl => ?_)
                    refine lv_goto (tgt := 68) hx hb d_C_plan_101 (by decide) ?_
                    exact ih_68 (x2_23 + 1) stops_24 shelves_25 stopPlaces_26 taken_27 _ _ _ hw hP hD hS (lv_sub hl [0, 1, 2] rfl)
                  · have hw := hw.2 c_30
                    refine lv_aload_n hx hb d_C_plan_84 rfl (lv_at hl 1 rfl) ?_
                    refine va_get (D := D) (ci := 0) (v := .ref (a 8)) (C := R_C) (T := F_C) (N := 13) hx hb hts (iK iW_C) hown hK hP 0 rfl rfl 8 (by decide) (hts _ (kM kw_e53eb332)) (fun _ h9 => h9) rfl d_C_plan_85 ?_
                    refine lv_iload_n hx hb d_C_plan_88 rfl (lv_at hl 0 rfl) ?_
                    refine lv_aload_n hx hb d_C_plan_89 rfl (lv_at hl 1 rfl) ?_
                    refine va_get (D := D) (ci := 0) (v := .ref (a 1)) (C := R_C) (T := F_C) (N := 13) hx hb hts (iK iW_C) hown hK hP 0 rfl rfl 1 (by decide) (hts _ (kM kw_47d73e1c)) (fun _ h9 => h9) rfl d_C_plan_90 ?_
                    refine lv_iload_n hx hb d_C_plan_93 rfl (lv_at hl 0 rfl) ?_
                    obtain ⟨h_31, hw⟩ := hw
                    refine va_iald hx hb hK hP 1 0 rfl rfl h_31 d_C_plan_94 ?_
                    have hPc := hP.sub (ws' := pW a cI cZ ring stops_24 fewest isExact_14 shelves_25 stopPlaces_26 taken_27 trial best) [8, 9, 10, 11, 12, 13] rfl
                    have hDc := hD.sub (ws' := pW a cI cZ ring stops_24 fewest isExact_14 shelves_25 stopPlaces_26 taken_27 trial best) [8, 9, 10, 11, 12, 13] (by decide) rfl
                    have hFc := va_free (wc := pW a cI cZ ring stops_24 fewest isExact_14 shelves_25 stopPlaces_26 taken_27 trial best) hD hS hA [8, 9, 10, 11, 12, 13] rfl
                    refine va_callv (va_runVN (As := [.int x2_23, .int (placeOf (x2_23).toNatClampNeg)]) (rest := []) ⟨hx, hb, hml, hown, hts⟩ (c_P_addStop hw) ⟨va_cnB 2 hts (gC k_P_addStop) rfl rfl rfl (hZ.m (.methodLinkNest R_C 123 y_P_addStop R_C) (by decide +kernel)) (hts _ (kM kw_9924c1cf)) (by decide +kernel) ⟨(Nat.le_of_ble_eq_true rfl), (Nat.le_of_ble_eq_true rfl)⟩, (hts _ (kM kw_2524d7b4)), (hts _ (kM kw_af73752d))⟩ ⟨kP.blind, va_recv hK hPc (ci := 1) (q0 := 0) rfl rfl, kP.of hK hPc hDc hZ hS hFc⟩ rfl rfl hl.1 rfl (lv_room (Nat.le_of_ble_eq_true rfl)) d_C_plan_95 ⟨(Nat.le_of_ble_eq_true rfl), (Nat.le_of_ble_eq_true rfl)⟩) hS (fun q _ h => hFc q h) hFc (fun u t H1 locs ht hvm hw hB hz1 hk1 hS => ?_)
                    obtain ⟨stops_32, shelves_33, stopPlaces_34, taken_35⟩ := u
                    obtain ⟨hP1, hK1, hD1⟩ := hB
                    try dsimp only at hw hP1 hD1
                    rw [ht] at hP1
                    have hK1 := va_K.moved hvm.symm hK1
                    obtain ⟨hP, hD⟩ := va_join (wr := [((a 0), .inr (0, [.int places, .ref (a 1), .ref (a 2), .ref (a 3), .ref (a 4), .ref (a 5), .ref (a 6), .ref (a 7), .ref (a 8), .int listed, .int front, .int turns, .int fetched])), ((a 1), .inl (cI, 24, .inl placeOf)), ((a 2), .inl (cI, 24, .inl shelfAt)), ((a 3), .inl (cZ, 24, .inl isBlocked)), ((a 4), .inl (cI, 20, .inl shelfOf)), ((a 5), .inl (cI, 20, .inl counts)), ((a 6), .inl (cZ, 2, .inl isOpen)), ((a 7), .inl (cI, 8, .inl list))]) (w1 := pW a cI cZ ring stops_32 fewest isExact_14 shelves_33 stopPlaces_34 taken_35 trial best) hP hD [8, 9, 10, 11, 12, 13] [0, 1, 2, 3, 4, 5, 6, 7] rfl rfl (by decide) (by decide) hk1 hFc hP1 hD1
                    generalize H1 = H at hP hS ⊢
                    have hP : va_P D classes (cW a cI cZ places listed front turns fetched placeOf shelfAt isBlocked shelfOf counts isOpen list ring stops_32 fewest isExact_14 shelves_33 stopPlaces_34 taken_35 trial best) H := hP
                    have hD : va_D A (cW a cI cZ places listed front turns fetched placeOf shelfAt isBlocked shelfOf counts isOpen list ring stops_32 fewest isExact_14 shelves_33 stopPlaces_34 taken_35 trial best) := hD
                    refine lv_iinc (v := (x2_23 + 1)) (lv' := [(2, .int (x2_23 + 1)), (0, .ref (a 0)), (1, .int x1)]) hx hb d_C_plan_98 hl (k := 0) rfl rfl (by decide) rfl (fun ls hl => ?_)
                    refine lv_goto (tgt := 68) hx hb d_C_plan_101 (by decide) ?_
                    exact ih_68 (x2_23 + 1) stops_32 shelves_33 stopPlaces_34 taken_35 _ _ _ hw hP hD hS (lv_sub hl [0, 1, 2] rfl)
            exact key_68 n_68 (0 : Int32) stops_13 shelves stopPlaces taken _ _ _ hw hP hD hS (lv_sub hl [0, 1, 2] rfl)
          · have hw := hw.2 c_8
            refine lv_aload_n hx hb d_C_plan_30 rfl (lv_at hl 1 rfl) ?_
            refine lv_aload_n hx hb d_C_plan_31 rfl (lv_at hl 1 rfl) ?_
            refine va_get (D := D) (ci := 0) (v := .ref (a 7)) (C := R_C) (T := F_C) (N := 13) hx hb hts (iK iW_C) hown hK hP 0 rfl rfl 7 (by decide) (hts _ (kM kw_01782700)) (fun _ h9 => h9) rfl d_C_plan_32 ?_
            refine lv_iload_n hx hb d_C_plan_35 rfl (lv_at hl 0 rfl) ?_
            obtain ⟨h_9, hw⟩ := hw
            refine va_iald hx hb hK hP 7 0 rfl rfl h_9 d_C_plan_36 ?_
            have hPc := hP
            have hDc := hD
            have hFc := va_free (wc := cW a cI cZ places listed front turns fetched placeOf shelfAt isBlocked shelfOf counts isOpen list ring stops fewest isExact shelves stopPlaces taken trial best) hD hS hA [0, 1, 2, 3, 4, 5, 6, 7, 8, 9, 10, 11, 12, 13] rfl
            refine vp_callSi (W.runV (As := [.int (list (x2_7).toNatClampNeg)]) (rest := []) ⟨hx, hb, hml, hown, hts⟩ (c_C_canBeFetched hw) (cwV 1 hts (gV k_C_canBeFetched kw_ecaa8e97 kw_46d4190f kw_cc11171f kw_91859716) rfl rfl rfl (by decide +kernel) ⟨(Nat.le_of_ble_eq_true rfl), (Nat.le_of_ble_eq_true rfl)⟩) ⟨kP.blind, va_recv hK hPc (ci := 0) (q0 := 0) rfl rfl, kP.of hK hPc hDc hZ hS hFc⟩ rfl rfl hl.1 rfl (lv_room (Nat.le_of_ble_eq_true rfl)) d_C_plan_37 ⟨(Nat.le_of_ble_eq_true rfl), (Nat.le_of_ble_eq_true rfl)⟩) (fun r_10 hw => ?_)
            refine lv_if_ne (tgt := 53) hx hb d_C_plan_40 (by decide) (fun c_11 => ?_) (fun c_11 => ?_)
            · have hw := hw.1 c_11
              refine lv_iinc (v := (x2_7 + 1)) (lv' := [(2, .int (x2_7 + 1)), (0, .ref (a 0)), (1, .int x1)]) hx hb d_C_plan_53 hl (k := 0) rfl rfl (by decide) rfl (fun ls hl => ?_)
              refine lv_goto (tgt := 22) hx hb d_C_plan_56 (by decide) ?_
              exact ih_22 (x2_7 + 1) _ hw (lv_sub hl [0, 1, 2] rfl)
            · have hw := hw.2 c_11
              exact vx_throwS (own := R_C) (cls := "java/lang/IllegalStateException") (names := exN) hx hb hl9 hown (by decide +kernel) (by decide +kernel) (hts _ (kM kw_fc879798)) (hts _ (kM kw_f529d838)) (hZ.s 11 rfl) (ta_C_IllegalStateException (fun w h => hts w (kM h)) hZ) tg_C_IllegalStateException hZ.u hZ.n hS (hl.1.trans hml.symm) d_C_plan_43 d_C_plan_46 d_C_plan_47 d_C_plan_49 d_C_plan_52 (fun x hx => (hEx x hx).elim) (Nat.le_of_ble_eq_true rfl) (Nat.le_of_ble_eq_true rfl) (Nat.le_of_ble_eq_true rfl) (Nat.le_of_ble_eq_true rfl) hlocks (fun t ha hsz hk => ⟨("java/lang/IllegalStateException", stops, fewest, isExact, shelves, stopPlaces, taken, trial, best), hw, ⟨rfl, hP.kept (fun k q hq => hk q.1 (hP k q hq).lt), va_K.moved ha hK, hD⟩, Nat.le_trans hS.1 hsz, fun q h1 h2 => (hk q (Nat.lt_of_lt_of_le h1 hS.1)).trans (hS.2.1 q h1 h2)⟩) hS.2.2 (Nat.le_of_ble_eq_true rfl) (Nat.le_of_ble_eq_true rfl)
      exact key_22 n_22 (0 : Int32) _ hw (lv_sub hl [0, 1, 2] rfl)
    · have hw := hw.2 c_2
      exact vx_throwS (own := R_C) (cls := "java/lang/IllegalArgumentException") (names := exN) hx hb hl9 hown (by decide +kernel) (by decide +kernel) (hts _ (kM kw_bedd2d32)) (hts _ (kM kw_ed8d893e)) (hZ.s 10 rfl) (ta_C_IllegalArgumentException (fun w h => hts w (kM h)) hZ) tg_C_IllegalArgumentException hZ.u hZ.n hS (hl.1.trans hml.symm) d_C_plan_10 d_C_plan_13 d_C_plan_14 d_C_plan_16 d_C_plan_19 (fun x hx => (hEx x hx).elim) (Nat.le_of_ble_eq_true rfl) (Nat.le_of_ble_eq_true rfl) (Nat.le_of_ble_eq_true rfl) (Nat.le_of_ble_eq_true rfl) hlocks (fun t ha hsz hk => ⟨("java/lang/IllegalArgumentException", stops, fewest, isExact, shelves, stopPlaces, taken, trial, best), hw, ⟨rfl, hP.kept (fun k q hq => hk q.1 (hP k q hq).lt), va_K.moved ha hK, hD⟩, Nat.le_trans hS.1 hsz, fun q h1 h2 => (hk q (Nat.lt_of_lt_of_le h1 hS.1)).trans (hS.2.1 q h1 h2)⟩) hS.2.2 (Nat.le_of_ble_eq_true rfl) (Nat.le_of_ble_eq_true rfl)
def p_P_shelfOfStop (x1 : Int32) (stops : Int32) (shelves : Nat → Int32) (best : Nat → Int32) (post : Int32 → Prop) : Prop := ((x1 < 0 → post (-1 : Int32)) ∧ (¬ x1 < 0 → ((x1 < stops → (vp_in x1 8 ∧ (vp_in (best (x1).toNatClampNeg) 8 ∧ post (shelves ((best (x1).toNatClampNeg)).toNatClampNeg)))) ∧ (¬ x1 < stops → post (-1 : Int32)))))
abbrev rm_P_shelfOfStop : Room := { frames := 1, cells := 0, slots := 0, locals := 40 }
set_option maxHeartbeats 4000000 in
set_option maxRecDepth 100000 in
theorem c_P_shelfOfStop {l : Launch} {D : va_G} {sa : Nat → Nat} {cI cZ : ClassId} {sz : Nat} {a : Nat → Nat} {ring : Int32} {stops : Int32} {fewest : Int32} {isExact : Int32} {shelves : Nat → Int32} {stopPlaces : Nat → Int32} {taken : Nat → Int32} {trial : Nat → Int32} {best : Nat → Int32} {x1 : Int32} {post : Int32 → Prop} (hw : p_P_shelfOfStop x1 stops shelves best post) : Met l y_P_shelfOfStop w_P_shelfOfStop rm_P_shelfOfStop (va_Pc [.ref (a 8), .int x1] (kP D sa [(cI, .int), (cZ, .boolean)] (pW a cI cZ ring stops fewest isExact shelves stopPlaces taken trial best) sz)) (vp_Si post) 0 0 (fun _ => False) := by
  refine Met.ofW (cc := b_P_shelfOfStop) (maxL := 2) (ret := (some .int)) (by decide) rfl ?_
  intro p e s m args below meth c s₁ B hml hv
  obtain ⟨rfl, hsz, hP, hK, hD0, hZ⟩ := hv
  have hx := B.exec
  have hb := B.bytes
  have hr := B.returns
  have hts := atoms_spec (ws := w_P_shelfOfStop) B.pre
  have hown : s.vm.findClass R_P = some m.cls := findClass_of_methodNamed B.named
  have hlocks := B.notSynchronized
  subst hsz
  have hD := hD0.self (sz := s.heap.size)
  generalize hAe : (va_A (pW a cI cZ ring stops fewest isExact shelves stopPlaces taken trial best) s.heap.size) = A at hD hZ
  have hA : ∀ q : Nat, s.heap.size ≤ q → A q := fun q h => by rw [← hAe]; exact Or.inr h
  have hS : va_S A s.heap s.heap [] := va_S.rf
  have hl := lv_entry ([.ref (a 8), .int x1]) (n := 2) (Nat.le_of_ble_eq_true rfl)
  rw [lg_entry_eq]
  generalize (lg_sl ([.ref (a 8), .int x1]) ++ List.replicate (2 - (lg_sl ([.ref (a 8), .int x1])).length) Slot.unset).toArray = ls at hl ⊢
  have hl : lv_has ls 2 [(0, .ref (a 8)), (1, .int x1)] := hl
  refine lv_iload_n hx hb d_P_shelfOfStop_0 rfl (lv_at hl 1 rfl) ?_
  refine lv_if_lt (tgt := 12) hx hb d_P_shelfOfStop_1 (by decide) (fun c_1 => ?_) (fun c_1 => ?_)
  · have hw := hw.1 c_1
    refine lv_iconst (v := (-1 : Int32)) hx hb d_P_shelfOfStop_12 (by decide) ?_
    exact W.iret (v := (-1 : Int32)) hx hb hr (fun t ht _ => ⟨(-1 : Int32), rfl, hw, ht⟩) (by simp) d_P_shelfOfStop_13
  · have hw := hw.2 c_1
    refine lv_iload_n hx hb d_P_shelfOfStop_4 rfl (lv_at hl 1 rfl) ?_
    refine lv_aload_n hx hb d_P_shelfOfStop_5 rfl (lv_at hl 0 rfl) ?_
    refine va_get (D := D) (ci := 1) (v := .int stops) (C := R_P) (T := F_P) (N := 9) hx hb hts (iK iW_P) hown hK hP 0 rfl rfl 6 (by decide) (hts _ (kM kw_b8fa4191)) (fun _ h9 => h9) rfl d_P_shelfOfStop_6 ?_
    refine lv_icmp_lt (tgt := 14) hx hb d_P_shelfOfStop_9 (by decide) (fun c_2 => ?_) (fun c_2 => ?_)
    · have hw := hw.1 c_2
      refine lv_aload_n hx hb d_P_shelfOfStop_14 rfl (lv_at hl 0 rfl) ?_
      refine va_get (D := D) (ci := 1) (v := .ref (a 9)) (C := R_P) (T := F_P) (N := 9) hx hb hts (iK iW_P) hown hK hP 0 rfl rfl 1 (by decide) (hts _ (kM kw_504cce82)) (fun _ h9 => h9) rfl d_P_shelfOfStop_15 ?_
      refine lv_aload_n hx hb d_P_shelfOfStop_18 rfl (lv_at hl 0 rfl) ?_
      refine va_get (D := D) (ci := 1) (v := .ref (a 13)) (C := R_P) (T := F_P) (N := 9) hx hb hts (iK iW_P) hown hK hP 0 rfl rfl 5 (by decide) (hts _ (kM kw_9ed59189)) (fun _ h9 => h9) rfl d_P_shelfOfStop_19 ?_
      refine lv_iload_n hx hb d_P_shelfOfStop_22 rfl (lv_at hl 1 rfl) ?_
      obtain ⟨h_3, hw⟩ := hw
      refine va_iald hx hb hK hP 5 0 rfl rfl h_3 d_P_shelfOfStop_23 ?_
      obtain ⟨h_4, hw⟩ := hw
      refine va_iald hx hb hK hP 1 0 rfl rfl h_4 d_P_shelfOfStop_24 ?_
      exact W.iret (v := (shelves ((best (x1).toNatClampNeg)).toNatClampNeg)) hx hb hr (fun t ht _ => ⟨(shelves ((best (x1).toNatClampNeg)).toNatClampNeg), rfl, hw, ht⟩) (by simp) d_P_shelfOfStop_25
    · have hw := hw.2 c_2
      refine lv_iconst (v := (-1 : Int32)) hx hb d_P_shelfOfStop_12 (by decide) ?_
      exact W.iret (v := (-1 : Int32)) hx hb hr (fun t ht _ => ⟨(-1 : Int32), rfl, hw, ht⟩) (by simp) d_P_shelfOfStop_13
def p_C_at (x1 : Int32) (stops : Int32) (shelves : Nat → Int32) (best : Nat → Int32) (post : Int32 → Prop) : Prop := (p_P_shelfOfStop x1 stops shelves best (fun r_1 => post r_1))
abbrev rm_C_at : Room := { frames := 2, cells := 0, slots := 0, locals := 61 }
set_option maxHeartbeats 4000000 in
set_option maxRecDepth 100000 in
theorem c_C_at {l : Launch} {D : va_G} {sa : Nat → Nat} {cI cZ : ClassId} {sz : Nat} {a : Nat → Nat} {places : Int32} {listed : Int32} {front : Int32} {turns : Int32} {fetched : Int32} {placeOf : Nat → Int32} {shelfAt : Nat → Int32} {isBlocked : Nat → Int32} {shelfOf : Nat → Int32} {counts : Nat → Int32} {isOpen : Nat → Int32} {list : Nat → Int32} {ring : Int32} {stops : Int32} {fewest : Int32} {isExact : Int32} {shelves : Nat → Int32} {stopPlaces : Nat → Int32} {taken : Nat → Int32} {trial : Nat → Int32} {best : Nat → Int32} {x1 : Int32} {post : Int32 → Prop} (hw : p_C_at x1 stops shelves best post) : Met l y_C_at w_C_at rm_C_at (va_Pc [.ref (a 0), .int x1] (kP D sa [(cI, .int), (cZ, .boolean)] (cW a cI cZ places listed front turns fetched placeOf shelfAt isBlocked shelfOf counts isOpen list ring stops fewest isExact shelves stopPlaces taken trial best) sz)) (vp_Si post) 0 0 (fun _ => False) := by
  refine Met.ofW (cc := b_C_at) (maxL := 2) (ret := (some .int)) (by decide) rfl ?_
  intro p e s m args below meth c s₁ B hml hv
  obtain ⟨rfl, hsz, hP, hK, hD0, hZ⟩ := hv
  have hx := B.exec
  have hb := B.bytes
  have hr := B.returns
  have hts := atoms_spec (ws := w_C_at) B.pre
  have hown : s.vm.findClass R_C = some m.cls := findClass_of_methodNamed B.named
  have hlocks := B.notSynchronized
  subst hsz
  have hD := hD0.self (sz := s.heap.size)
  generalize hAe : (va_A (cW a cI cZ places listed front turns fetched placeOf shelfAt isBlocked shelfOf counts isOpen list ring stops fewest isExact shelves stopPlaces taken trial best) s.heap.size) = A at hD hZ
  have hA : ∀ q : Nat, s.heap.size ≤ q → A q := fun q h => by rw [← hAe]; exact Or.inr h
  have hS : va_S A s.heap s.heap [] := va_S.rf
  have hl := lv_entry ([.ref (a 0), .int x1]) (n := 2) (Nat.le_of_ble_eq_true rfl)
  rw [lg_entry_eq]
  generalize (lg_sl ([.ref (a 0), .int x1]) ++ List.replicate (2 - (lg_sl ([.ref (a 0), .int x1])).length) Slot.unset).toArray = ls at hl ⊢
  have hl : lv_has ls 2 [(0, .ref (a 0)), (1, .int x1)] := hl
  refine lv_aload_n hx hb d_C_at_0 rfl (lv_at hl 0 rfl) ?_
  refine va_get (D := D) (ci := 0) (v := .ref (a 8)) (C := R_C) (T := F_C) (N := 13) hx hb hts (iK iW_C) hown hK hP 0 rfl rfl 8 (by decide) (hts _ (kM kw_e53eb332)) (fun _ h9 => h9) rfl d_C_at_1 ?_
  refine lv_iload_n hx hb d_C_at_4 rfl (lv_at hl 1 rfl) ?_
  have hPc := hP.sub (ws' := pW a cI cZ ring stops fewest isExact shelves stopPlaces taken trial best) [8, 9, 10, 11, 12, 13] rfl
  have hDc := hD.sub (ws' := pW a cI cZ ring stops fewest isExact shelves stopPlaces taken trial best) [8, 9, 10, 11, 12, 13] (by decide) rfl
  have hFc := va_free (wc := pW a cI cZ ring stops fewest isExact shelves stopPlaces taken trial best) hD hS hA [8, 9, 10, 11, 12, 13] rfl
  refine vp_callSi (va_runVN (As := [.int x1]) (rest := []) ⟨hx, hb, hml, hown, hts⟩ (c_P_shelfOfStop hw) ⟨va_cnB 1 hts (gC k_P_shelfOfStop) rfl rfl rfl (hZ.m (.methodLinkNest R_C 130 y_P_shelfOfStop R_C) (by decide +kernel)) (hts _ (kM kw_9924c1cf)) (by decide +kernel) ⟨(Nat.le_of_ble_eq_true rfl), (Nat.le_of_ble_eq_true rfl)⟩, (hts _ (kM kw_bfa74f19)), (hts _ (kM kw_004ffb0f))⟩ ⟨kP.blind, va_recv hK hPc (ci := 1) (q0 := 0) rfl rfl, kP.of hK hPc hDc hZ hS hFc⟩ rfl rfl hl.1 rfl (lv_room (Nat.le_of_ble_eq_true rfl)) d_C_at_5 ⟨(Nat.le_of_ble_eq_true rfl), (Nat.le_of_ble_eq_true rfl)⟩).run (fun r_1 hw => ?_)
  exact W.iret (v := r_1) hx hb hr (fun t ht _ => ⟨r_1, rfl, hw, ht⟩) (by simp) d_C_at_8
def p_C_exact (isExact : Int32) (post : Int32 → Prop) : Prop := (narrow .boolean (.int isExact) = .int isExact ∧ post isExact)
abbrev rm_C_exact : Room := { frames := 1, cells := 0, slots := 0, locals := 40 }
set_option maxHeartbeats 4000000 in
set_option maxRecDepth 100000 in
theorem c_C_exact {l : Launch} {D : va_G} {sa : Nat → Nat} {cI cZ : ClassId} {sz : Nat} {a : Nat → Nat} {places : Int32} {listed : Int32} {front : Int32} {turns : Int32} {fetched : Int32} {placeOf : Nat → Int32} {shelfAt : Nat → Int32} {isBlocked : Nat → Int32} {shelfOf : Nat → Int32} {counts : Nat → Int32} {isOpen : Nat → Int32} {list : Nat → Int32} {ring : Int32} {stops : Int32} {fewest : Int32} {isExact : Int32} {shelves : Nat → Int32} {stopPlaces : Nat → Int32} {taken : Nat → Int32} {trial : Nat → Int32} {best : Nat → Int32} {post : Int32 → Prop} (hw : p_C_exact isExact post) : Met l y_C_exact w_C_exact rm_C_exact (va_Pc [.ref (a 0)] (kP D sa [(cI, .int), (cZ, .boolean)] (cW a cI cZ places listed front turns fetched placeOf shelfAt isBlocked shelfOf counts isOpen list ring stops fewest isExact shelves stopPlaces taken trial best) sz)) (vp_Si post) 0 0 (fun _ => False) := by
  refine Met.ofW (cc := b_C_exact) (maxL := 1) (ret := (some .boolean)) (by decide) rfl ?_
  intro p e s m args below meth c s₁ B hml hv
  obtain ⟨rfl, hsz, hP, hK, hD0, hZ⟩ := hv
  have hx := B.exec
  have hb := B.bytes
  have hr := B.returns
  have hts := atoms_spec (ws := w_C_exact) B.pre
  have hown : s.vm.findClass R_C = some m.cls := findClass_of_methodNamed B.named
  have hlocks := B.notSynchronized
  subst hsz
  have hD := hD0.self (sz := s.heap.size)
  generalize hAe : (va_A (cW a cI cZ places listed front turns fetched placeOf shelfAt isBlocked shelfOf counts isOpen list ring stops fewest isExact shelves stopPlaces taken trial best) s.heap.size) = A at hD hZ
  have hA : ∀ q : Nat, s.heap.size ≤ q → A q := fun q h => by rw [← hAe]; exact Or.inr h
  have hS : va_S A s.heap s.heap [] := va_S.rf
  have hl := lv_entry ([.ref (a 0)]) (n := 1) (Nat.le_of_ble_eq_true rfl)
  rw [lg_entry_eq]
  generalize (lg_sl ([.ref (a 0)]) ++ List.replicate (1 - (lg_sl ([.ref (a 0)])).length) Slot.unset).toArray = ls at hl ⊢
  have hl : lv_has ls 1 [(0, .ref (a 0))] := hl
  refine lv_aload_n hx hb d_C_exact_0 rfl (lv_at hl 0 rfl) ?_
  refine va_get (D := D) (ci := 0) (v := .ref (a 8)) (C := R_C) (T := F_C) (N := 13) hx hb hts (iK iW_C) hown hK hP 0 rfl rfl 8 (by decide) (hts _ (kM kw_e53eb332)) (fun _ h9 => h9) rfl d_C_exact_1 ?_
  refine va_getN (D := D) (ci := 1) (v := .int isExact) (C := R_P) (T := F_P) (N := 9) hx hb hts (iK iW_P) hown hK hP 8 rfl rfl 8 (by decide) (hZ.f (.fieldLinkNest R_C 133 R_P "isExact" "Z" R_C) (by decide +kernel)) (fun _ h9 => h9) rfl d_C_exact_4 ?_
  obtain ⟨h_1, hw⟩ := hw
  exact W.zret (v := isExact) (ty := .boolean) hx hb hr h_1 (fun t ht _ => ⟨isExact, rfl, hw, ht⟩) (by simp) d_C_exact_7
def p_C_clear (listed : Int32) (post : Int32 → Int32 → Int32 → Int32 → Prop) : Prop := (p_P_forget (fun stops_1 isExact_2 => post listed (0 : Int32) stops_1 isExact_2))
abbrev rm_C_clear : Room := { frames := 2, cells := 0, slots := 0, locals := 60 }
set_option maxHeartbeats 4000000 in
set_option maxRecDepth 100000 in
theorem c_C_clear {l : Launch} {D : va_G} {sa : Nat → Nat} {cI cZ : ClassId} {sz : Nat} {a : Nat → Nat} {places : Int32} {listed : Int32} {front : Int32} {turns : Int32} {fetched : Int32} {placeOf : Nat → Int32} {shelfAt : Nat → Int32} {isBlocked : Nat → Int32} {shelfOf : Nat → Int32} {counts : Nat → Int32} {isOpen : Nat → Int32} {list : Nat → Int32} {ring : Int32} {stops : Int32} {fewest : Int32} {isExact : Int32} {shelves : Nat → Int32} {stopPlaces : Nat → Int32} {taken : Nat → Int32} {trial : Nat → Int32} {best : Nat → Int32} {post : Int32 → Int32 → Int32 → Int32 → Prop} (hw : p_C_clear listed post) : Met l y_C_clear w_C_clear rm_C_clear (va_Pc [.ref (a 0)] (kP D sa [(cI, .int), (cZ, .boolean)] (cW a cI cZ places listed front turns fetched placeOf shelfAt isBlocked shelfOf counts isOpen list ring stops fewest isExact shelves stopPlaces taken trial best) sz)) (va_Qi (fun r (u : Int32 × Int32 × Int32) => post r u.1 u.2.1 u.2.2) (fun (u : Int32 × Int32 × Int32) t => va_P D classes (cW a cI cZ places u.1 front turns fetched placeOf shelfAt isBlocked shelfOf counts isOpen list ring u.2.1 fewest u.2.2 shelves stopPlaces taken trial best) t.heap ∧ va_K D classes [(cI, .int), (cZ, .boolean)] t ∧ va_D (va_A (cW a cI cZ places listed front turns fetched placeOf shelfAt isBlocked shelfOf counts isOpen list ring stops fewest isExact shelves stopPlaces taken trial best) sz) (cW a cI cZ places u.1 front turns fetched placeOf shelfAt isBlocked shelfOf counts isOpen list ring u.2.1 fewest u.2.2 shelves stopPlaces taken trial best)) (va_A (cW a cI cZ places listed front turns fetched placeOf shelfAt isBlocked shelfOf counts isOpen list ring stops fewest isExact shelves stopPlaces taken trial best) sz)) 0 0 (va_A (cW a cI cZ places listed front turns fetched placeOf shelfAt isBlocked shelfOf counts isOpen list ring stops fewest isExact shelves stopPlaces taken trial best) sz) := by
  refine Met.ofW (cc := b_C_clear) (maxL := 2) (ret := (some .int)) (by decide) rfl ?_
  intro p e s m args below meth c s₁ B hml hv
  obtain ⟨rfl, hsz, hP, hK, hD0, hZ⟩ := hv
  have hx := B.exec
  have hb := B.bytes
  have hr := B.returns
  have hts := atoms_spec (ws := w_C_clear) B.pre
  have hown : s.vm.findClass R_C = some m.cls := findClass_of_methodNamed B.named
  have hlocks := B.notSynchronized
  subst hsz
  have hD := hD0.self (sz := s.heap.size)
  generalize hAe : (va_A (cW a cI cZ places listed front turns fetched placeOf shelfAt isBlocked shelfOf counts isOpen list ring stops fewest isExact shelves stopPlaces taken trial best) s.heap.size) = A at hD hZ ⊢
  have hA : ∀ q : Nat, s.heap.size ≤ q → A q := fun q h => by rw [← hAe]; exact Or.inr h
  have hS : va_S A s.heap s.heap [] := va_S.rf
  have hl := lv_entry ([.ref (a 0)]) (n := 2) (Nat.le_of_ble_eq_true rfl)
  rw [lg_entry_eq]
  generalize (lg_sl ([.ref (a 0)]) ++ List.replicate (2 - (lg_sl ([.ref (a 0)])).length) Slot.unset).toArray = ls at hl ⊢
  have hl : lv_has ls 2 [(0, .ref (a 0))] := hl
  refine lv_aload_n hx hb d_C_clear_0 rfl (lv_at hl 0 rfl) ?_
  refine va_get (D := D) (ci := 0) (v := .int listed) (C := R_C) (T := F_C) (N := 13) hx hb hts (iK iW_C) hown hK hP 0 rfl rfl 9 (by decide) (hts _ (kM kw_f614f36e)) (fun _ h9 => h9) rfl d_C_clear_1 ?_
  refine lv_istore_n (lv' := [(1, .int listed), (0, .ref (a 0))]) hx hb d_C_clear_4 rfl hl (by decide) rfl (fun ls hl => ?_)
  refine lv_aload_n hx hb d_C_clear_5 rfl (lv_at hl 1 rfl) ?_
  refine lv_iconst (v := (0 : Int32)) hx hb d_C_clear_6 (by decide) ?_
  refine va_put (D := D) (ci := 0) (v := .int (0 : Int32)) (ty := .int) (C := R_C) (T := F_C) (N := 13) hx hb hts (iK iW_C) t_C t_C_ok n_C hown hK hP hD hS 0 rfl rfl 9 (by decide) (hts _ (kM kw_f614f36e)) (fun _ h9 => h9) rfl (by decide +kernel) rfl rfl (Nat.le_of_ble_eq_true rfl) d_C_clear_7 (fun H locs hP hD hS => ?_)
  have hP : va_P D classes (cW a cI cZ places (0 : Int32) front turns fetched placeOf shelfAt isBlocked shelfOf counts isOpen list ring stops fewest isExact shelves stopPlaces taken trial best) H := hP
  have hD : va_D A (cW a cI cZ places (0 : Int32) front turns fetched placeOf shelfAt isBlocked shelfOf counts isOpen list ring stops fewest isExact shelves stopPlaces taken trial best) := hD
  refine lv_aload_n hx hb d_C_clear_10 rfl (lv_at hl 1 rfl) ?_
  refine va_get (D := D) (ci := 0) (v := .ref (a 8)) (C := R_C) (T := F_C) (N := 13) hx hb hts (iK iW_C) hown hK hP 0 rfl rfl 8 (by decide) (hts _ (kM kw_e53eb332)) (fun _ h9 => h9) rfl d_C_clear_11 ?_
  have hPc := hP.sub (ws' := pW a cI cZ ring stops fewest isExact shelves stopPlaces taken trial best) [8, 9, 10, 11, 12, 13] rfl
  have hDc := hD.sub (ws' := pW a cI cZ ring stops fewest isExact shelves stopPlaces taken trial best) [8, 9, 10, 11, 12, 13] (by decide) rfl
  have hFc := va_free (wc := pW a cI cZ ring stops fewest isExact shelves stopPlaces taken trial best) hD hS hA [8, 9, 10, 11, 12, 13] rfl
  refine va_callv (va_runVN (As := []) (rest := []) ⟨hx, hb, hml, hown, hts⟩ (c_P_forget hw) ⟨va_cnB 0 hts (gC k_P_forget) rfl rfl rfl (hZ.m (.methodLinkNest R_C 117 y_P_forget R_C) (by decide +kernel)) (hts _ (kM kw_9924c1cf)) (by decide +kernel) ⟨(Nat.le_of_ble_eq_true rfl), (Nat.le_of_ble_eq_true rfl)⟩, (hts _ (kM kw_6b19e3e1)), (hts _ (kM kw_9f896de2))⟩ ⟨kP.blind, va_recv hK hPc (ci := 1) (q0 := 0) rfl rfl, kP.of hK hPc hDc hZ hS hFc⟩ rfl rfl hl.1 rfl (lv_room (Nat.le_of_ble_eq_true rfl)) d_C_clear_14 ⟨(Nat.le_of_ble_eq_true rfl), (Nat.le_of_ble_eq_true rfl)⟩) hS (fun q _ h => hFc q h) hFc (fun u t H1 locs ht hvm hw hB hz1 hk1 hS => ?_)
  obtain ⟨stops_1, isExact_2⟩ := u
  obtain ⟨hP1, hK1, hD1⟩ := hB
  try dsimp only at hw hP1 hD1
  rw [ht] at hP1
  have hK1 := va_K.moved hvm.symm hK1
  obtain ⟨hP, hD⟩ := va_join (wr := [((a 0), .inr (0, [.int places, .ref (a 1), .ref (a 2), .ref (a 3), .ref (a 4), .ref (a 5), .ref (a 6), .ref (a 7), .ref (a 8), .int (0 : Int32), .int front, .int turns, .int fetched])), ((a 1), .inl (cI, 24, .inl placeOf)), ((a 2), .inl (cI, 24, .inl shelfAt)), ((a 3), .inl (cZ, 24, .inl isBlocked)), ((a 4), .inl (cI, 20, .inl shelfOf)), ((a 5), .inl (cI, 20, .inl counts)), ((a 6), .inl (cZ, 2, .inl isOpen)), ((a 7), .inl (cI, 8, .inl list))]) (w1 := pW a cI cZ ring stops_1 fewest isExact_2 shelves stopPlaces taken trial best) hP hD [8, 9, 10, 11, 12, 13] [0, 1, 2, 3, 4, 5, 6, 7] rfl rfl (by decide) (by decide) hk1 hFc hP1 hD1
  generalize H1 = H at hP hS ⊢
  have hP : va_P D classes (cW a cI cZ places (0 : Int32) front turns fetched placeOf shelfAt isBlocked shelfOf counts isOpen list ring stops_1 fewest isExact_2 shelves stopPlaces taken trial best) H := hP
  have hD : va_D A (cW a cI cZ places (0 : Int32) front turns fetched placeOf shelfAt isBlocked shelfOf counts isOpen list ring stops_1 fewest isExact_2 shelves stopPlaces taken trial best) := hD
  refine lv_iload_n hx hb d_C_clear_17 rfl (lv_at hl 0 rfl) ?_
  exact W.iret (v := listed) hx hb hr (fun t ht hW => ⟨⟨listed, ((0 : Int32), stops_1, isExact_2), rfl, hw, by rw [ht]; exact hP, va_K.moved hW.alike hK, hD⟩, hS.F ht⟩) hS.2.2 d_C_clear_18
def p_C_needStation (x0 : Int32) (post : Prop) (pex : String → Prop) : Prop := ((x0 < 0 → pex "java/lang/IllegalArgumentException") ∧ (¬ x0 < 0 → ((x0 < (2 : Int32) → post) ∧ (¬ x0 < (2 : Int32) → pex "java/lang/IllegalArgumentException"))))
abbrev rm_C_needStation : Room := { frames := 6, cells := 1, slots := 6, locals := 100 }
set_option maxHeartbeats 4000000 in
set_option maxRecDepth 100000 in
theorem c_C_needStation {l : Launch} (hl9 : l.stackTraces = false) {D : va_G} {sa : Nat → Nat} {cI cZ : ClassId} {sz : Nat} {x0 : Int32} {post : Prop} {pex : String → Prop} (hw : p_C_needStation x0 post pex) : vx_Met l y_C_needStation w_C_needStation rm_C_needStation (va_Pc [.int x0] (kP D sa [(cI, .int), (cZ, .boolean)] ([]) sz)) (va_Qv (fun (u : Unit) => post) (fun (u : Unit) t => va_P D classes ([]) t.heap ∧ va_K D classes [(cI, .int), (cZ, .boolean)] t ∧ va_D (va_A ([]) sz) ([])) (va_A ([]) sz)) (vx_X (fun (u : String) => pex u) (fun E (u : String) t => u = E ∧ va_P D classes ([]) t.heap ∧ va_K D classes [(cI, .int), (cZ, .boolean)] t ∧ va_D (va_A ([]) sz) ([])) (va_A ([]) sz)) 1 6 (va_A ([]) sz) := by
  refine vx_ofW (cc := b_C_needStation) (maxL := 1) (ret := none) (by decide) rfl ?_
  intro p e s m args below meth c s₁ B hml hEx hv
  obtain ⟨rfl, hsz, hP, hK, hD0, hZ⟩ := hv
  have hx := B.exec
  have hb := B.bytes
  have hr := B.returns
  have hts := atoms_spec (ws := w_C_needStation) B.pre
  have hown : s.vm.findClass R_C = some m.cls := findClass_of_methodNamed B.named
  have hlocks := B.notSynchronized
  subst hsz
  have hD := hD0.self (sz := s.heap.size)
  generalize hAe : (va_A ([]) s.heap.size) = A at hD hZ ⊢
  have hA : ∀ q : Nat, s.heap.size ≤ q → A q := fun q h => by rw [← hAe]; exact Or.inr h
  have hS : va_S A s.heap s.heap [] := va_S.rf
  have hl := lv_entry ([.int x0]) (n := 1) (Nat.le_of_ble_eq_true rfl)
  rw [lg_entry_eq]
  generalize (lg_sl ([.int x0]) ++ List.replicate (1 - (lg_sl ([.int x0])).length) Slot.unset).toArray = ls at hl ⊢
  have hl : lv_has ls 1 [(0, .int x0)] := hl
  refine lv_iload_n hx hb d_C_needStation_0 rfl (lv_at hl 0 rfl) ?_
  refine lv_if_lt (tgt := 9) hx hb d_C_needStation_1 (by decide) (fun c_1 => ?_) (fun c_1 => ?_)
  · have hw := hw.1 c_1
    exact vx_throwS (own := R_C) (cls := "java/lang/IllegalArgumentException") (names := exN) hx hb hl9 hown (by decide +kernel) (by decide +kernel) (hts _ (kM kw_bedd2d32)) (hts _ (kM kw_ed8d893e)) (hZ.s 12 rfl) (ta_C_IllegalArgumentException (fun w h => hts w (kM h)) hZ) tg_C_IllegalArgumentException hZ.u hZ.n hS (hl.1.trans hml.symm) d_C_needStation_9 d_C_needStation_12 d_C_needStation_13 d_C_needStation_15 d_C_needStation_18 (fun x hx => (hEx x hx).elim) (Nat.le_of_ble_eq_true rfl) (Nat.le_of_ble_eq_true rfl) (Nat.le_of_ble_eq_true rfl) (Nat.le_of_ble_eq_true rfl) hlocks (fun t ha hsz hk => ⟨"java/lang/IllegalArgumentException", hw, ⟨rfl, hP.kept (fun k q hq => hk q.1 (hP k q hq).lt), va_K.moved ha hK, hD⟩, Nat.le_trans hS.1 hsz, fun q h1 h2 => (hk q (Nat.lt_of_lt_of_le h1 hS.1)).trans (hS.2.1 q h1 h2)⟩) hS.2.2 (Nat.le_of_ble_eq_true rfl) (Nat.le_of_ble_eq_true rfl)
  · have hw := hw.2 c_1
    refine lv_iload_n hx hb d_C_needStation_4 rfl (lv_at hl 0 rfl) ?_
    refine lv_iconst (v := (2 : Int32)) hx hb d_C_needStation_5 (by decide) ?_
    refine lv_icmp_lt (tgt := 19) hx hb d_C_needStation_6 (by decide) (fun c_2 => ?_) (fun c_2 => ?_)
    · have hw := hw.1 c_2
      refine W.widen (k := 1) (n := 6) (Nat.le_of_ble_eq_true rfl) (Nat.le_of_ble_eq_true rfl) ?_
      refine vx_ret ?_
      exact W.vret hx hb hr (fun t ht hW => ⟨⟨(), rfl, hw, by rw [ht]; exact hP, va_K.moved hW.alike hK, hD⟩, hS.F ht⟩) hS.2.2 d_C_needStation_19
    · have hw := hw.2 c_2
      exact vx_throwS (own := R_C) (cls := "java/lang/IllegalArgumentException") (names := exN) hx hb hl9 hown (by decide +kernel) (by decide +kernel) (hts _ (kM kw_bedd2d32)) (hts _ (kM kw_ed8d893e)) (hZ.s 12 rfl) (ta_C_IllegalArgumentException (fun w h => hts w (kM h)) hZ) tg_C_IllegalArgumentException hZ.u hZ.n hS (hl.1.trans hml.symm) d_C_needStation_9 d_C_needStation_12 d_C_needStation_13 d_C_needStation_15 d_C_needStation_18 (fun x hx => (hEx x hx).elim) (Nat.le_of_ble_eq_true rfl) (Nat.le_of_ble_eq_true rfl) (Nat.le_of_ble_eq_true rfl) (Nat.le_of_ble_eq_true rfl) hlocks (fun t ha hsz hk => ⟨"java/lang/IllegalArgumentException", hw, ⟨rfl, hP.kept (fun k q hq => hk q.1 (hP k q hq).lt), va_K.moved ha hK, hD⟩, Nat.le_trans hS.1 hsz, fun q h1 h2 => (hk q (Nat.lt_of_lt_of_le h1 hS.1)).trans (hS.2.1 q h1 h2)⟩) hS.2.2 (Nat.le_of_ble_eq_true rfl) (Nat.le_of_ble_eq_true rfl)
def p_C_pick (x1 : Int32) (x2 : Int32) (places : Int32) (front : Int32) (fetched : Int32) (shelfAt : Nat → Int32) (isBlocked : Nat → Int32) (shelfOf : Nat → Int32) (counts : Nat → Int32) (isOpen : Nat → Int32) (post : Int32 → Int32 → (Nat → Int32) → (Nat → Int32) → Prop) (pex : String → Int32 → (Nat → Int32) → (Nat → Int32) → Prop) : Prop := (p_C_needPlaces places ((p_C_needUnit x1 ((p_C_needStation x2 ((vp_in front 24 ∧ (vp_in x2 2 ∧ ((¬ (isOpen (x2).toNatClampNeg) = 0 → (vp_in (shelfAt (front).toNatClampNeg) 24 ∧ (((isBlocked ((shelfAt (front).toNatClampNeg)).toNatClampNeg) = 0 → (vp_in x1 20 ∧ (((shelfOf (x1).toNatClampNeg) = (shelfAt (front).toNatClampNeg) → (vp_in x1 20 ∧ (vp_in x1 20 ∧ (vp_in x1 20 ∧ post (1 : Int32) (fetched + (1 : Int32)) (upd shelfOf (x1).toNatClampNeg (-1 : Int32)) (upd counts (x1).toNatClampNeg ((counts (x1).toNatClampNeg) + (64 : Int32))))))) ∧ (¬ (shelfOf (x1).toNatClampNeg) = (shelfAt (front).toNatClampNeg) → post (0 : Int32) fetched shelfOf counts)))) ∧ (¬ (isBlocked ((shelfAt (front).toNatClampNeg)).toNatClampNeg) = 0 → pex "java/lang/IllegalStateException" fetched shelfOf counts)))) ∧ ((isOpen (x2).toNatClampNeg) = 0 → pex "java/lang/IllegalStateException" fetched shelfOf counts))))) (fun E_11 => pex E_11 fetched shelfOf counts))) (fun E_12 => pex E_12 fetched shelfOf counts))) (fun E_13 => pex E_13 fetched shelfOf counts))
abbrev rm_C_pick : Room := { frames := 7, cells := 5, slots := 30, locals := 120 }
set_option maxHeartbeats 4000000 in
set_option maxRecDepth 100000 in
theorem c_C_pick {l : Launch} (hl9 : l.stackTraces = false) {D : va_G} {sa : Nat → Nat} {cI cZ : ClassId} {sz : Nat} {a : Nat → Nat} {places : Int32} {listed : Int32} {front : Int32} {turns : Int32} {fetched : Int32} {placeOf : Nat → Int32} {shelfAt : Nat → Int32} {isBlocked : Nat → Int32} {shelfOf : Nat → Int32} {counts : Nat → Int32} {isOpen : Nat → Int32} {list : Nat → Int32} {ring : Int32} {stops : Int32} {fewest : Int32} {isExact : Int32} {shelves : Nat → Int32} {stopPlaces : Nat → Int32} {taken : Nat → Int32} {trial : Nat → Int32} {best : Nat → Int32} {x1 : Int32} {x2 : Int32} {post : Int32 → Int32 → (Nat → Int32) → (Nat → Int32) → Prop} {pex : String → Int32 → (Nat → Int32) → (Nat → Int32) → Prop} (hw : p_C_pick x1 x2 places front fetched shelfAt isBlocked shelfOf counts isOpen post pex) : vx_Met l y_C_pick w_C_pick rm_C_pick (va_Pc [.ref (a 0), .int x1, .int x2] (kP D sa [(cI, .int), (cZ, .boolean)] (cW a cI cZ places listed front turns fetched placeOf shelfAt isBlocked shelfOf counts isOpen list ring stops fewest isExact shelves stopPlaces taken trial best) sz)) (va_Qi (fun r (u : Int32 × (Nat → Int32) × (Nat → Int32)) => post r u.1 u.2.1 u.2.2) (fun (u : Int32 × (Nat → Int32) × (Nat → Int32)) t => va_P D classes (cW a cI cZ places listed front turns u.1 placeOf shelfAt isBlocked u.2.1 u.2.2 isOpen list ring stops fewest isExact shelves stopPlaces taken trial best) t.heap ∧ va_K D classes [(cI, .int), (cZ, .boolean)] t ∧ va_D (va_A (cW a cI cZ places listed front turns fetched placeOf shelfAt isBlocked shelfOf counts isOpen list ring stops fewest isExact shelves stopPlaces taken trial best) sz) (cW a cI cZ places listed front turns u.1 placeOf shelfAt isBlocked u.2.1 u.2.2 isOpen list ring stops fewest isExact shelves stopPlaces taken trial best)) (va_A (cW a cI cZ places listed front turns fetched placeOf shelfAt isBlocked shelfOf counts isOpen list ring stops fewest isExact shelves stopPlaces taken trial best) sz)) (vx_X (fun (u : String × Int32 × (Nat → Int32) × (Nat → Int32)) => pex u.1 u.2.1 u.2.2.1 u.2.2.2) (fun E (u : String × Int32 × (Nat → Int32) × (Nat → Int32)) t => u.1 = E ∧ va_P D classes (cW a cI cZ places listed front turns u.2.1 placeOf shelfAt isBlocked u.2.2.1 u.2.2.2 isOpen list ring stops fewest isExact shelves stopPlaces taken trial best) t.heap ∧ va_K D classes [(cI, .int), (cZ, .boolean)] t ∧ va_D (va_A (cW a cI cZ places listed front turns fetched placeOf shelfAt isBlocked shelfOf counts isOpen list ring stops fewest isExact shelves stopPlaces taken trial best) sz) (cW a cI cZ places listed front turns u.2.1 placeOf shelfAt isBlocked u.2.2.1 u.2.2.2 isOpen list ring stops fewest isExact shelves stopPlaces taken trial best)) (va_A (cW a cI cZ places listed front turns fetched placeOf shelfAt isBlocked shelfOf counts isOpen list ring stops fewest isExact shelves stopPlaces taken trial best) sz)) 5 30 (va_A (cW a cI cZ places listed front turns fetched placeOf shelfAt isBlocked shelfOf counts isOpen list ring stops fewest isExact shelves stopPlaces taken trial best) sz) := by
  refine vx_ofW (cc := b_C_pick) (maxL := 4) (ret := (some .boolean)) (by decide) rfl ?_
  intro p e s m args below meth c s₁ B hml hEx hv
  obtain ⟨rfl, hsz, hP, hK, hD0, hZ⟩ := hv
  have hx := B.exec
  have hb := B.bytes
  have hr := B.returns
  have hts := atoms_spec (ws := w_C_pick) B.pre
  have hown : s.vm.findClass R_C = some m.cls := findClass_of_methodNamed B.named
  have hlocks := B.notSynchronized
  subst hsz
  have hD := hD0.self (sz := s.heap.size)
  generalize hAe : (va_A (cW a cI cZ places listed front turns fetched placeOf shelfAt isBlocked shelfOf counts isOpen list ring stops fewest isExact shelves stopPlaces taken trial best) s.heap.size) = A at hD hZ ⊢
  have hA : ∀ q : Nat, s.heap.size ≤ q → A q := fun q h => by rw [← hAe]; exact Or.inr h
  have hS : va_S A s.heap s.heap [] := va_S.rf
  have hl := lv_entry ([.ref (a 0), .int x1, .int x2]) (n := 4) (Nat.le_of_ble_eq_true rfl)
  rw [lg_entry_eq]
  generalize (lg_sl ([.ref (a 0), .int x1, .int x2]) ++ List.replicate (4 - (lg_sl ([.ref (a 0), .int x1, .int x2])).length) Slot.unset).toArray = ls at hl ⊢
  have hl : lv_has ls 4 [(0, .ref (a 0)), (1, .int x1), (2, .int x2)] := hl
  refine lv_aload_n hx hb d_C_pick_0 rfl (lv_at hl 0 rfl) ?_
  have hPc := hP
  have hDc := hD
  have hFc := va_free (wc := cW a cI cZ places listed front turns fetched placeOf shelfAt isBlocked shelfOf counts isOpen list ring stops fewest isExact shelves stopPlaces taken trial best) hD hS hA [0, 1, 2, 3, 4, 5, 6, 7, 8, 9, 10, 11, 12, 13] rfl
  refine vx_callv (vx_runV (As := []) (rest := []) ⟨hx, hb, hml, hown, hts⟩ (c_C_needPlaces hl9 hw) (cwV 0 hts (gV k_C_needPlaces kw_f3a0b8b0 kw_c86b930e kw_ab37399c kw_91859716) rfl rfl rfl (by decide +kernel) ⟨(Nat.le_of_ble_eq_true rfl), (Nat.le_of_ble_eq_true rfl)⟩) ⟨kP.blind, va_recv hK hPc (ci := 0) (q0 := 0) rfl rfl, kP.of hK hPc hDc hZ hS hFc⟩ rfl rfl hl.1 rfl (lv_room (Nat.le_of_ble_eq_true rfl)) d_C_pick_1 ⟨(Nat.le_of_ble_eq_true rfl), (Nat.le_of_ble_eq_true rfl)⟩) hS (fun q _ h => hFc q h) hFc (fun q _ h => hFc q h) (fun E9 ce q9 u t H1 locs ht hvm hw hB hz1 hk1 hS hce hcv hcl => ?_) (fun u t H1 locs ht hvm hw hB hz1 hk1 hS => ?_)
  · obtain ⟨E_13, rfl⟩ : ∃ z, z = u := ⟨_, rfl⟩
    obtain ⟨hE9, hP1, hK1, hD1⟩ := hB
    try dsimp only at hw hP1 hD1 hE9
    subst hE9
    rw [ht] at hP1
    have hK1 := va_K.moved hvm.symm hK1
    obtain ⟨hP, hD⟩ := va_join (wr := []) (w1 := cW a cI cZ places listed front turns fetched placeOf shelfAt isBlocked shelfOf counts isOpen list ring stops fewest isExact shelves stopPlaces taken trial best) hP hD [0, 1, 2, 3, 4, 5, 6, 7, 8, 9, 10, 11, 12, 13] [] rfl rfl (by decide) (by decide) hk1 hFc hP1 hD1
    generalize H1 = H at hP hS hce ⊢
    have hP : va_P D classes (cW a cI cZ places listed front turns fetched placeOf shelfAt isBlocked shelfOf counts isOpen list ring stops fewest isExact shelves stopPlaces taken trial best) H := hP
    have hD : va_D A (cW a cI cZ places listed front turns fetched placeOf shelfAt isBlocked shelfOf counts isOpen list ring stops fewest isExact shelves stopPlaces taken trial best) := hD
    exact vx_out (fun x hx => (hEx x hx).elim) hlocks hce hcv hcl (fun t9 h9 ha => ⟨(E_13, fetched, shelfOf, counts), hw, ⟨rfl, by rw [h9]; exact hP, va_K.moved ha hK, hD⟩, hS.F h9⟩) hS.2.2 (Nat.le_of_ble_eq_true rfl) (Nat.le_of_ble_eq_true rfl)
  · obtain ⟨⟩ := u
    obtain ⟨hP1, hK1, hD1⟩ := hB
    try dsimp only at hw hP1 hD1
    rw [ht] at hP1
    have hK1 := va_K.moved hvm.symm hK1
    obtain ⟨hP, hD⟩ := va_join (wr := []) (w1 := cW a cI cZ places listed front turns fetched placeOf shelfAt isBlocked shelfOf counts isOpen list ring stops fewest isExact shelves stopPlaces taken trial best) hP hD [0, 1, 2, 3, 4, 5, 6, 7, 8, 9, 10, 11, 12, 13] [] rfl rfl (by decide) (by decide) hk1 hFc hP1 hD1
    generalize H1 = H at hP hS ⊢
    have hP : va_P D classes (cW a cI cZ places listed front turns fetched placeOf shelfAt isBlocked shelfOf counts isOpen list ring stops fewest isExact shelves stopPlaces taken trial best) H := hP
    have hD : va_D A (cW a cI cZ places listed front turns fetched placeOf shelfAt isBlocked shelfOf counts isOpen list ring stops fewest isExact shelves stopPlaces taken trial best) := hD
    refine lv_iload_n hx hb d_C_pick_4 rfl (lv_at hl 1 rfl) ?_
    have hPc := hP.sub (ws' := []) [] rfl
    have hDc := hD.sub (ws' := []) [] (by decide) rfl
    have hFc := va_free (wc := []) hD hS hA [] rfl
    refine vx_callv (vx_runS (As := [.int x1]) (rest := []) ⟨hx, hb, hml, hown, hts⟩ (c_C_needUnit hl9 hw) (cwS 1 hts (gS k_C_needUnit kw_1da68db5 kw_44579350 kw_91859716) rfl rfl rfl (by decide +kernel) ⟨(Nat.le_of_ble_eq_true rfl), (Nat.le_of_ble_eq_true rfl)⟩) ⟨kP.blind, kP.of hK hPc hDc hZ hS hFc⟩ rfl rfl hl.1 rfl (lv_room (Nat.le_of_ble_eq_true rfl)) d_C_pick_5 ⟨(Nat.le_of_ble_eq_true rfl), (Nat.le_of_ble_eq_true rfl)⟩) hS (fun q _ h => hFc q h) hFc (fun q _ h => hFc q h) (fun E9 ce q9 u t H1 locs ht hvm hw hB hz1 hk1 hS hce hcv hcl => ?_) (fun u t H1 locs ht hvm hw hB hz1 hk1 hS => ?_)
    · obtain ⟨E_12, rfl⟩ : ∃ z, z = u := ⟨_, rfl⟩
      obtain ⟨hE9, hP1, hK1, hD1⟩ := hB
      try dsimp only at hw hP1 hD1 hE9
      subst hE9
      rw [ht] at hP1
      have hK1 := va_K.moved hvm.symm hK1
      obtain ⟨hP, hD⟩ := va_join (wr := cW a cI cZ places listed front turns fetched placeOf shelfAt isBlocked shelfOf counts isOpen list ring stops fewest isExact shelves stopPlaces taken trial best) (w1 := []) hP hD [] [0, 1, 2, 3, 4, 5, 6, 7, 8, 9, 10, 11, 12, 13] rfl rfl (by decide) (by decide) hk1 hFc hP1 hD1
      generalize H1 = H at hP hS hce ⊢
      have hP : va_P D classes (cW a cI cZ places listed front turns fetched placeOf shelfAt isBlocked shelfOf counts isOpen list ring stops fewest isExact shelves stopPlaces taken trial best) H := hP
      have hD : va_D A (cW a cI cZ places listed front turns fetched placeOf shelfAt isBlocked shelfOf counts isOpen list ring stops fewest isExact shelves stopPlaces taken trial best) := hD
      exact vx_out (fun x hx => (hEx x hx).elim) hlocks hce hcv hcl (fun t9 h9 ha => ⟨(E_12, fetched, shelfOf, counts), hw, ⟨rfl, by rw [h9]; exact hP, va_K.moved ha hK, hD⟩, hS.F h9⟩) hS.2.2 (Nat.le_of_ble_eq_true rfl) (Nat.le_of_ble_eq_true rfl)
    · obtain ⟨⟩ := u
      obtain ⟨hP1, hK1, hD1⟩ := hB
      try dsimp only at hw hP1 hD1
      rw [ht] at hP1
      have hK1 := va_K.moved hvm.symm hK1
      obtain ⟨hP, hD⟩ := va_join (wr := cW a cI cZ places listed front turns fetched placeOf shelfAt isBlocked shelfOf counts isOpen list ring stops fewest isExact shelves stopPlaces taken trial best) (w1 := []) hP hD [] [0, 1, 2, 3, 4, 5, 6, 7, 8, 9, 10, 11, 12, 13] rfl rfl (by decide) (by decide) hk1 hFc hP1 hD1
      generalize H1 = H at hP hS ⊢
      have hP : va_P D classes (cW a cI cZ places listed front turns fetched placeOf shelfAt isBlocked shelfOf counts isOpen list ring stops fewest isExact shelves stopPlaces taken trial best) H := hP
      have hD : va_D A (cW a cI cZ places listed front turns fetched placeOf shelfAt isBlocked shelfOf counts isOpen list ring stops fewest isExact shelves stopPlaces taken trial best) := hD
      refine lv_iload_n hx hb d_C_pick_8 rfl (lv_at hl 2 rfl) ?_
      have hPc := hP.sub (ws' := []) [] rfl
      have hDc := hD.sub (ws' := []) [] (by decide) rfl
      have hFc := va_free (wc := []) hD hS hA [] rfl
      refine vx_callv (vx_runS (As := [.int x2]) (rest := []) ⟨hx, hb, hml, hown, hts⟩ (c_C_needStation hl9 hw) (cwS 1 hts (gS k_C_needStation kw_39c05284 kw_c86f81c4 kw_91859716) rfl rfl rfl (by decide +kernel) ⟨(Nat.le_of_ble_eq_true rfl), (Nat.le_of_ble_eq_true rfl)⟩) ⟨kP.blind, kP.of hK hPc hDc hZ hS hFc⟩ rfl rfl hl.1 rfl (lv_room (Nat.le_of_ble_eq_true rfl)) d_C_pick_9 ⟨(Nat.le_of_ble_eq_true rfl), (Nat.le_of_ble_eq_true rfl)⟩) hS (fun q _ h => hFc q h) hFc (fun q _ h => hFc q h) (fun E9 ce q9 u t H1 locs ht hvm hw hB hz1 hk1 hS hce hcv hcl => ?_) (fun u t H1 locs ht hvm hw hB hz1 hk1 hS => ?_)
      · obtain ⟨E_11, rfl⟩ : ∃ z, z = u := ⟨_, rfl⟩
        obtain ⟨hE9, hP1, hK1, hD1⟩ := hB
        try dsimp only at hw hP1 hD1 hE9
        subst hE9
        rw [ht] at hP1
        have hK1 := va_K.moved hvm.symm hK1
        obtain ⟨hP, hD⟩ := va_join (wr := cW a cI cZ places listed front turns fetched placeOf shelfAt isBlocked shelfOf counts isOpen list ring stops fewest isExact shelves stopPlaces taken trial best) (w1 := []) hP hD [] [0, 1, 2, 3, 4, 5, 6, 7, 8, 9, 10, 11, 12, 13] rfl rfl (by decide) (by decide) hk1 hFc hP1 hD1
        generalize H1 = H at hP hS hce ⊢
        have hP : va_P D classes (cW a cI cZ places listed front turns fetched placeOf shelfAt isBlocked shelfOf counts isOpen list ring stops fewest isExact shelves stopPlaces taken trial best) H := hP
        have hD : va_D A (cW a cI cZ places listed front turns fetched placeOf shelfAt isBlocked shelfOf counts isOpen list ring stops fewest isExact shelves stopPlaces taken trial best) := hD
        exact vx_out (fun x hx => (hEx x hx).elim) hlocks hce hcv hcl (fun t9 h9 ha => ⟨(E_11, fetched, shelfOf, counts), hw, ⟨rfl, by rw [h9]; exact hP, va_K.moved ha hK, hD⟩, hS.F h9⟩) hS.2.2 (Nat.le_of_ble_eq_true rfl) (Nat.le_of_ble_eq_true rfl)
      · obtain ⟨⟩ := u
        obtain ⟨hP1, hK1, hD1⟩ := hB
        try dsimp only at hw hP1 hD1
        rw [ht] at hP1
        have hK1 := va_K.moved hvm.symm hK1
        obtain ⟨hP, hD⟩ := va_join (wr := cW a cI cZ places listed front turns fetched placeOf shelfAt isBlocked shelfOf counts isOpen list ring stops fewest isExact shelves stopPlaces taken trial best) (w1 := []) hP hD [] [0, 1, 2, 3, 4, 5, 6, 7, 8, 9, 10, 11, 12, 13] rfl rfl (by decide) (by decide) hk1 hFc hP1 hD1
        generalize H1 = H at hP hS ⊢
        have hP : va_P D classes (cW a cI cZ places listed front turns fetched placeOf shelfAt isBlocked shelfOf counts isOpen list ring stops fewest isExact shelves stopPlaces taken trial best) H := hP
        have hD : va_D A (cW a cI cZ places listed front turns fetched placeOf shelfAt isBlocked shelfOf counts isOpen list ring stops fewest isExact shelves stopPlaces taken trial best) := hD
        refine lv_aload_n hx hb d_C_pick_12 rfl (lv_at hl 0 rfl) ?_
        refine va_get (D := D) (ci := 0) (v := .ref (a 2)) (C := R_C) (T := F_C) (N := 13) hx hb hts (iK iW_C) hown hK hP 0 rfl rfl 2 (by decide) (hts _ (kM kw_99734f87)) (fun _ h9 => h9) rfl d_C_pick_13 ?_
        refine lv_aload_n hx hb d_C_pick_16 rfl (lv_at hl 0 rfl) ?_
        refine va_get (D := D) (ci := 0) (v := .int front) (C := R_C) (T := F_C) (N := 13) hx hb hts (iK iW_C) hown hK hP 0 rfl rfl 10 (by decide) (hts _ (kM kw_e1db8a3f)) (fun _ h9 => h9) rfl d_C_pick_17 ?_
        obtain ⟨h_1, hw⟩ := hw
        refine va_iald hx hb hK hP 2 0 rfl rfl h_1 d_C_pick_20 ?_
        refine lv_istore_n (lv' := [(3, .int (shelfAt (front).toNatClampNeg)), (0, .ref (a 0)), (1, .int x1), (2, .int x2)]) hx hb d_C_pick_21 rfl hl (by decide) rfl (fun ls hl => ?_)
        refine lv_aload_n hx hb d_C_pick_22 rfl (lv_at hl 1 rfl) ?_
        refine va_get (D := D) (ci := 0) (v := .ref (a 6)) (C := R_C) (T := F_C) (N := 13) hx hb hts (iK iW_C) hown hK hP 0 rfl rfl 6 (by decide) (hts _ (kM kw_16524bf0)) (fun _ h9 => h9) rfl d_C_pick_23 ?_
        refine lv_iload_n hx hb d_C_pick_26 rfl (lv_at hl 3 rfl) ?_
        obtain ⟨h_2, hw⟩ := hw
        refine va_zald hx hb hK hP 6 1 rfl rfl h_2 d_C_pick_27 ?_
        refine lv_if_ne (tgt := 41) hx hb d_C_pick_28 (by decide) (fun c_3 => ?_) (fun c_3 => ?_)
        · have hw := hw.1 c_3
          refine lv_aload_n hx hb d_C_pick_41 rfl (lv_at hl 1 rfl) ?_
          refine va_get (D := D) (ci := 0) (v := .ref (a 3)) (C := R_C) (T := F_C) (N := 13) hx hb hts (iK iW_C) hown hK hP 0 rfl rfl 3 (by decide) (hts _ (kM kw_932815e5)) (fun _ h9 => h9) rfl d_C_pick_42 ?_
          refine lv_iload_n hx hb d_C_pick_45 rfl (lv_at hl 0 rfl) ?_
          obtain ⟨h_4, hw⟩ := hw
          refine va_zald hx hb hK hP 3 1 rfl rfl h_4 d_C_pick_46 ?_
          refine lv_if_eq (tgt := 60) hx hb d_C_pick_47 (by decide) (fun c_5 => ?_) (fun c_5 => ?_)
          · have hw := hw.1 c_5
            refine lv_aload_n hx hb d_C_pick_60 rfl (lv_at hl 1 rfl) ?_
            refine va_get (D := D) (ci := 0) (v := .ref (a 4)) (C := R_C) (T := F_C) (N := 13) hx hb hts (iK iW_C) hown hK hP 0 rfl rfl 4 (by decide) (hts _ (kM kw_03cac826)) (fun _ h9 => h9) rfl d_C_pick_61 ?_
            refine lv_iload_n hx hb d_C_pick_64 rfl (lv_at hl 2 rfl) ?_
            obtain ⟨h_6, hw⟩ := hw
            refine va_iald hx hb hK hP 4 0 rfl rfl h_6 d_C_pick_65 ?_
            refine lv_iload_n hx hb d_C_pick_66 rfl (lv_at hl 0 rfl) ?_
            refine lv_icmp_eq (tgt := 72) hx hb d_C_pick_67 (by decide) (fun c_7 => ?_) (fun c_7 => ?_)
            · have hw := hw.1 c_7
              refine lv_aload_n hx hb d_C_pick_72 rfl (lv_at hl 1 rfl) ?_
              refine va_get (D := D) (ci := 0) (v := .ref (a 4)) (C := R_C) (T := F_C) (N := 13) hx hb hts (iK iW_C) hown hK hP 0 rfl rfl 4 (by decide) (hts _ (kM kw_03cac826)) (fun _ h9 => h9) rfl d_C_pick_73 ?_
              refine lv_iload_n hx hb d_C_pick_76 rfl (lv_at hl 2 rfl) ?_
              refine lv_iconst (v := (-1 : Int32)) hx hb d_C_pick_77 (by decide) ?_
              obtain ⟨h_8, hw⟩ := hw
              refine va_iast hx hb hK hP hD hS 4 0 rfl rfl h_8 d_C_pick_78 (fun H locs hP hD hS => ?_)
              have hP : va_P D classes (cW a cI cZ places listed front turns fetched placeOf shelfAt isBlocked (upd shelfOf (x1).toNatClampNeg (-1 : Int32)) counts isOpen list ring stops fewest isExact shelves stopPlaces taken trial best) H := hP
              have hD : va_D A (cW a cI cZ places listed front turns fetched placeOf shelfAt isBlocked (upd shelfOf (x1).toNatClampNeg (-1 : Int32)) counts isOpen list ring stops fewest isExact shelves stopPlaces taken trial best) := hD
              refine lv_aload_n hx hb d_C_pick_79 rfl (lv_at hl 1 rfl) ?_
              refine va_get (D := D) (ci := 0) (v := .ref (a 5)) (C := R_C) (T := F_C) (N := 13) hx hb hts (iK iW_C) hown hK hP 0 rfl rfl 5 (by decide) (hts _ (kM kw_bfd2040d)) (fun _ h9 => h9) rfl d_C_pick_80 ?_
              refine lv_iload_n hx hb d_C_pick_83 rfl (lv_at hl 2 rfl) ?_
              refine lv_dup2_11 hx hb d_C_pick_84 rfl rfl ?_
              obtain ⟨h_9, hw⟩ := hw
              refine va_iald hx hb hK hP 5 0 rfl rfl h_9 d_C_pick_85 ?_
              refine lv_bipush (v := (64 : Int32)) hx hb d_C_pick_86 (by decide) ?_
              refine lv_iadd hx hb d_C_pick_88 ?_
              obtain ⟨h_10, hw⟩ := hw
              refine va_iast hx hb hK hP hD hS 5 0 rfl rfl h_10 d_C_pick_89 (fun H locs hP hD hS => ?_)
              have hP : va_P D classes (cW a cI cZ places listed front turns fetched placeOf shelfAt isBlocked (upd shelfOf (x1).toNatClampNeg (-1 : Int32)) (upd counts (x1).toNatClampNeg ((counts (x1).toNatClampNeg) + (64 : Int32))) isOpen list ring stops fewest isExact shelves stopPlaces taken trial best) H := hP
              have hD : va_D A (cW a cI cZ places listed front turns fetched placeOf shelfAt isBlocked (upd shelfOf (x1).toNatClampNeg (-1 : Int32)) (upd counts (x1).toNatClampNeg ((counts (x1).toNatClampNeg) + (64 : Int32))) isOpen list ring stops fewest isExact shelves stopPlaces taken trial best) := hD
              refine lv_aload_n hx hb d_C_pick_90 rfl (lv_at hl 1 rfl) ?_
              refine lv_dup hx hb d_C_pick_91 rfl ?_
              refine va_get (D := D) (ci := 0) (v := .int fetched) (C := R_C) (T := F_C) (N := 13) hx hb hts (iK iW_C) hown hK hP 0 rfl rfl 12 (by decide) (hts _ (kM kw_0d27b205)) (fun _ h9 => h9) rfl d_C_pick_92 ?_
              refine lv_iconst (v := (1 : Int32)) hx hb d_C_pick_95 (by decide) ?_
              refine lv_iadd hx hb d_C_pick_96 ?_
              refine va_put (D := D) (ci := 0) (v := .int (fetched + (1 : Int32))) (ty := .int) (C := R_C) (T := F_C) (N := 13) hx hb hts (iK iW_C) t_C t_C_ok n_C hown hK hP hD hS 0 rfl rfl 12 (by decide) (hts _ (kM kw_0d27b205)) (fun _ h9 => h9) rfl (by decide +kernel) rfl rfl (Nat.le_of_ble_eq_true rfl) d_C_pick_97 (fun H locs hP hD hS => ?_)
              have hP : va_P D classes (cW a cI cZ places listed front turns (fetched + (1 : Int32)) placeOf shelfAt isBlocked (upd shelfOf (x1).toNatClampNeg (-1 : Int32)) (upd counts (x1).toNatClampNeg ((counts (x1).toNatClampNeg) + (64 : Int32))) isOpen list ring stops fewest isExact shelves stopPlaces taken trial best) H := hP
              have hD : va_D A (cW a cI cZ places listed front turns (fetched + (1 : Int32)) placeOf shelfAt isBlocked (upd shelfOf (x1).toNatClampNeg (-1 : Int32)) (upd counts (x1).toNatClampNeg ((counts (x1).toNatClampNeg) + (64 : Int32))) isOpen list ring stops fewest isExact shelves stopPlaces taken trial best) := hD
              refine lv_iconst (v := (1 : Int32)) hx hb d_C_pick_100 (by decide) ?_
              refine W.widen (k := 5) (n := 30) (Nat.le_of_ble_eq_true rfl) (Nat.le_of_ble_eq_true rfl) ?_
              refine vx_ret ?_
              exact W.zret (v := (1 : Int32)) (ty := .boolean) hx hb hr rfl (fun t ht hW => ⟨⟨(1 : Int32), ((fetched + (1 : Int32)), (upd shelfOf (x1).toNatClampNeg (-1 : Int32)), (upd counts (x1).toNatClampNeg ((counts (x1).toNatClampNeg) + (64 : Int32)))), rfl, hw, by rw [ht]; exact hP, va_K.moved hW.alike hK, hD⟩, hS.F ht⟩) hS.2.2 d_C_pick_101
            · have hw := hw.2 c_7
              refine lv_iconst (v := (0 : Int32)) hx hb d_C_pick_70 (by decide) ?_
              refine W.widen (k := 5) (n := 30) (Nat.le_of_ble_eq_true rfl) (Nat.le_of_ble_eq_true rfl) ?_
              refine vx_ret ?_
              exact W.zret (v := (0 : Int32)) (ty := .boolean) hx hb hr rfl (fun t ht hW => ⟨⟨(0 : Int32), (fetched, shelfOf, counts), rfl, hw, by rw [ht]; exact hP, va_K.moved hW.alike hK, hD⟩, hS.F ht⟩) hS.2.2 d_C_pick_71
          · have hw := hw.2 c_5
            exact vx_throwS (own := R_C) (cls := "java/lang/IllegalStateException") (names := exN) hx hb hl9 hown (by decide +kernel) (by decide +kernel) (hts _ (kM kw_fc879798)) (hts _ (kM kw_f529d838)) (hZ.s 13 rfl) (ta_C_IllegalStateException (fun w h => hts w (kM h)) hZ) tg_C_IllegalStateException hZ.u hZ.n hS (hl.1.trans hml.symm) d_C_pick_50 d_C_pick_53 d_C_pick_54 d_C_pick_56 d_C_pick_59 (fun x hx => (hEx x hx).elim) (Nat.le_of_ble_eq_true rfl) (Nat.le_of_ble_eq_true rfl) (Nat.le_of_ble_eq_true rfl) (Nat.le_of_ble_eq_true rfl) hlocks (fun t ha hsz hk => ⟨("java/lang/IllegalStateException", fetched, shelfOf, counts), hw, ⟨rfl, hP.kept (fun k q hq => hk q.1 (hP k q hq).lt), va_K.moved ha hK, hD⟩, Nat.le_trans hS.1 hsz, fun q h1 h2 => (hk q (Nat.lt_of_lt_of_le h1 hS.1)).trans (hS.2.1 q h1 h2)⟩) hS.2.2 (Nat.le_of_ble_eq_true rfl) (Nat.le_of_ble_eq_true rfl)
        · have hw := hw.2 c_3
          exact vx_throwS (own := R_C) (cls := "java/lang/IllegalStateException") (names := exN) hx hb hl9 hown (by decide +kernel) (by decide +kernel) (hts _ (kM kw_fc879798)) (hts _ (kM kw_f529d838)) (hZ.s 14 rfl) (ta_C_IllegalStateException (fun w h => hts w (kM h)) hZ) tg_C_IllegalStateException hZ.u hZ.n hS (hl.1.trans hml.symm) d_C_pick_31 d_C_pick_34 d_C_pick_35 d_C_pick_37 d_C_pick_40 (fun x hx => (hEx x hx).elim) (Nat.le_of_ble_eq_true rfl) (Nat.le_of_ble_eq_true rfl) (Nat.le_of_ble_eq_true rfl) (Nat.le_of_ble_eq_true rfl) hlocks (fun t ha hsz hk => ⟨("java/lang/IllegalStateException", fetched, shelfOf, counts), hw, ⟨rfl, hP.kept (fun k q hq => hk q.1 (hP k q hq).lt), va_K.moved ha hK, hD⟩, Nat.le_trans hS.1 hsz, fun q h1 h2 => (hk q (Nat.lt_of_lt_of_le h1 hS.1)).trans (hS.2.1 q h1 h2)⟩) hS.2.2 (Nat.le_of_ble_eq_true rfl) (Nat.le_of_ble_eq_true rfl)
def p_C_door (x1 : Int32) (x2 : Int32) (isOpen : Nat → Int32) (post : Int32 → (Nat → Int32) → Prop) (pex : String → (Nat → Int32) → Prop) : Prop := (p_C_needStation x1 ((vp_in x1 2 ∧ (vp_in x1 2 ∧ (narrow .boolean (.int (isOpen (x1).toNatClampNeg)) = .int (isOpen (x1).toNatClampNeg) ∧ post (isOpen (x1).toNatClampNeg) (upd isOpen (x1).toNatClampNeg (vp_nar .boolean x2)))))) (fun E_4 => pex E_4 isOpen))
abbrev rm_C_door : Room := { frames := 7, cells := 1, slots := 6, locals := 120 }
set_option maxHeartbeats 4000000 in
set_option maxRecDepth 100000 in
theorem c_C_door {l : Launch} (hl9 : l.stackTraces = false) {D : va_G} {sa : Nat → Nat} {cI cZ : ClassId} {sz : Nat} {a : Nat → Nat} {places : Int32} {listed : Int32} {front : Int32} {turns : Int32} {fetched : Int32} {placeOf : Nat → Int32} {shelfAt : Nat → Int32} {isBlocked : Nat → Int32} {shelfOf : Nat → Int32} {counts : Nat → Int32} {isOpen : Nat → Int32} {list : Nat → Int32} {ring : Int32} {stops : Int32} {fewest : Int32} {isExact : Int32} {shelves : Nat → Int32} {stopPlaces : Nat → Int32} {taken : Nat → Int32} {trial : Nat → Int32} {best : Nat → Int32} {x1 : Int32} {x2 : Int32} {post : Int32 → (Nat → Int32) → Prop} {pex : String → (Nat → Int32) → Prop} (hw : p_C_door x1 x2 isOpen post pex) : vx_Met l y_C_door w_C_door rm_C_door (va_Pc [.ref (a 0), .int x1, .int x2] (kP D sa [(cI, .int), (cZ, .boolean)] (cW a cI cZ places listed front turns fetched placeOf shelfAt isBlocked shelfOf counts isOpen list ring stops fewest isExact shelves stopPlaces taken trial best) sz)) (va_Qi (fun r (u : (Nat → Int32)) => post r u) (fun (u : (Nat → Int32)) t => va_P D classes (cW a cI cZ places listed front turns fetched placeOf shelfAt isBlocked shelfOf counts u list ring stops fewest isExact shelves stopPlaces taken trial best) t.heap ∧ va_K D classes [(cI, .int), (cZ, .boolean)] t ∧ va_D (va_A (cW a cI cZ places listed front turns fetched placeOf shelfAt isBlocked shelfOf counts isOpen list ring stops fewest isExact shelves stopPlaces taken trial best) sz) (cW a cI cZ places listed front turns fetched placeOf shelfAt isBlocked shelfOf counts u list ring stops fewest isExact shelves stopPlaces taken trial best)) (va_A (cW a cI cZ places listed front turns fetched placeOf shelfAt isBlocked shelfOf counts isOpen list ring stops fewest isExact shelves stopPlaces taken trial best) sz)) (vx_X (fun (u : String × (Nat → Int32)) => pex u.1 u.2) (fun E (u : String × (Nat → Int32)) t => u.1 = E ∧ va_P D classes (cW a cI cZ places listed front turns fetched placeOf shelfAt isBlocked shelfOf counts u.2 list ring stops fewest isExact shelves stopPlaces taken trial best) t.heap ∧ va_K D classes [(cI, .int), (cZ, .boolean)] t ∧ va_D (va_A (cW a cI cZ places listed front turns fetched placeOf shelfAt isBlocked shelfOf counts isOpen list ring stops fewest isExact shelves stopPlaces taken trial best) sz) (cW a cI cZ places listed front turns fetched placeOf shelfAt isBlocked shelfOf counts u.2 list ring stops fewest isExact shelves stopPlaces taken trial best)) (va_A (cW a cI cZ places listed front turns fetched placeOf shelfAt isBlocked shelfOf counts isOpen list ring stops fewest isExact shelves stopPlaces taken trial best) sz)) 1 6 (va_A (cW a cI cZ places listed front turns fetched placeOf shelfAt isBlocked shelfOf counts isOpen list ring stops fewest isExact shelves stopPlaces taken trial best) sz) := by
  refine vx_ofW (cc := b_C_door) (maxL := 4) (ret := (some .boolean)) (by decide) rfl ?_
  intro p e s m args below meth c s₁ B hml hEx hv
  obtain ⟨rfl, hsz, hP, hK, hD0, hZ⟩ := hv
  have hx := B.exec
  have hb := B.bytes
  have hr := B.returns
  have hts := atoms_spec (ws := w_C_door) B.pre
  have hown : s.vm.findClass R_C = some m.cls := findClass_of_methodNamed B.named
  have hlocks := B.notSynchronized
  subst hsz
  have hD := hD0.self (sz := s.heap.size)
  generalize hAe : (va_A (cW a cI cZ places listed front turns fetched placeOf shelfAt isBlocked shelfOf counts isOpen list ring stops fewest isExact shelves stopPlaces taken trial best) s.heap.size) = A at hD hZ ⊢
  have hA : ∀ q : Nat, s.heap.size ≤ q → A q := fun q h => by rw [← hAe]; exact Or.inr h
  have hS : va_S A s.heap s.heap [] := va_S.rf
  have hl := lv_entry ([.ref (a 0), .int x1, .int x2]) (n := 4) (Nat.le_of_ble_eq_true rfl)
  rw [lg_entry_eq]
  generalize (lg_sl ([.ref (a 0), .int x1, .int x2]) ++ List.replicate (4 - (lg_sl ([.ref (a 0), .int x1, .int x2])).length) Slot.unset).toArray = ls at hl ⊢
  have hl : lv_has ls 4 [(0, .ref (a 0)), (1, .int x1), (2, .int x2)] := hl
  refine lv_iload_n hx hb d_C_door_0 rfl (lv_at hl 1 rfl) ?_
  have hPc := hP.sub (ws' := []) [] rfl
  have hDc := hD.sub (ws' := []) [] (by decide) rfl
  have hFc := va_free (wc := []) hD hS hA [] rfl
  refine vx_callv (vx_runS (As := [.int x1]) (rest := []) ⟨hx, hb, hml, hown, hts⟩ (c_C_needStation hl9 hw) (cwS 1 hts (gS k_C_needStation kw_39c05284 kw_c86f81c4 kw_91859716) rfl rfl rfl (by decide +kernel) ⟨(Nat.le_of_ble_eq_true rfl), (Nat.le_of_ble_eq_true rfl)⟩) ⟨kP.blind, kP.of hK hPc hDc hZ hS hFc⟩ rfl rfl hl.1 rfl (lv_room (Nat.le_of_ble_eq_true rfl)) d_C_door_1 ⟨(Nat.le_of_ble_eq_true rfl), (Nat.le_of_ble_eq_true rfl)⟩) hS (fun q _ h => hFc q h) hFc (fun q _ h => hFc q h) (fun E9 ce q9 u t H1 locs ht hvm hw hB hz1 hk1 hS hce hcv hcl => ?_) (fun u t H1 locs ht hvm hw hB hz1 hk1 hS => ?_)
  · obtain ⟨E_4, rfl⟩ : ∃ z, z = u := ⟨_, rfl⟩
    obtain ⟨hE9, hP1, hK1, hD1⟩ := hB
    try dsimp only at hw hP1 hD1 hE9
    subst hE9
    rw [ht] at hP1
    have hK1 := va_K.moved hvm.symm hK1
    obtain ⟨hP, hD⟩ := va_join (wr := cW a cI cZ places listed front turns fetched placeOf shelfAt isBlocked shelfOf counts isOpen list ring stops fewest isExact shelves stopPlaces taken trial best) (w1 := []) hP hD [] [0, 1, 2, 3, 4, 5, 6, 7, 8, 9, 10, 11, 12, 13] rfl rfl (by decide) (by decide) hk1 hFc hP1 hD1
    generalize H1 = H at hP hS hce ⊢
    have hP : va_P D classes (cW a cI cZ places listed front turns fetched placeOf shelfAt isBlocked shelfOf counts isOpen list ring stops fewest isExact shelves stopPlaces taken trial best) H := hP
    have hD : va_D A (cW a cI cZ places listed front turns fetched placeOf shelfAt isBlocked shelfOf counts isOpen list ring stops fewest isExact shelves stopPlaces taken trial best) := hD
    exact vx_out (fun x hx => (hEx x hx).elim) hlocks hce hcv hcl (fun t9 h9 ha => ⟨(E_4, isOpen), hw, ⟨rfl, by rw [h9]; exact hP, va_K.moved ha hK, hD⟩, hS.F h9⟩) hS.2.2 (Nat.le_of_ble_eq_true rfl) (Nat.le_of_ble_eq_true rfl)
  · obtain ⟨⟩ := u
    obtain ⟨hP1, hK1, hD1⟩ := hB
    try dsimp only at hw hP1 hD1
    rw [ht] at hP1
    have hK1 := va_K.moved hvm.symm hK1
    obtain ⟨hP, hD⟩ := va_join (wr := cW a cI cZ places listed front turns fetched placeOf shelfAt isBlocked shelfOf counts isOpen list ring stops fewest isExact shelves stopPlaces taken trial best) (w1 := []) hP hD [] [0, 1, 2, 3, 4, 5, 6, 7, 8, 9, 10, 11, 12, 13] rfl rfl (by decide) (by decide) hk1 hFc hP1 hD1
    generalize H1 = H at hP hS ⊢
    have hP : va_P D classes (cW a cI cZ places listed front turns fetched placeOf shelfAt isBlocked shelfOf counts isOpen list ring stops fewest isExact shelves stopPlaces taken trial best) H := hP
    have hD : va_D A (cW a cI cZ places listed front turns fetched placeOf shelfAt isBlocked shelfOf counts isOpen list ring stops fewest isExact shelves stopPlaces taken trial best) := hD
    refine lv_aload_n hx hb d_C_door_4 rfl (lv_at hl 0 rfl) ?_
    refine va_get (D := D) (ci := 0) (v := .ref (a 6)) (C := R_C) (T := F_C) (N := 13) hx hb hts (iK iW_C) hown hK hP 0 rfl rfl 6 (by decide) (hts _ (kM kw_16524bf0)) (fun _ h9 => h9) rfl d_C_door_5 ?_
    refine lv_iload_n hx hb d_C_door_8 rfl (lv_at hl 1 rfl) ?_
    obtain ⟨h_1, hw⟩ := hw
    refine va_zald hx hb hK hP 6 1 rfl rfl h_1 d_C_door_9 ?_
    refine lv_istore_n (lv' := [(3, .int (isOpen (x1).toNatClampNeg)), (0, .ref (a 0)), (1, .int x1), (2, .int x2)]) hx hb d_C_door_10 rfl hl (by decide) rfl (fun ls hl => ?_)
    refine lv_aload_n hx hb d_C_door_11 rfl (lv_at hl 1 rfl) ?_
    refine va_get (D := D) (ci := 0) (v := .ref (a 6)) (C := R_C) (T := F_C) (N := 13) hx hb hts (iK iW_C) hown hK hP 0 rfl rfl 6 (by decide) (hts _ (kM kw_16524bf0)) (fun _ h9 => h9) rfl d_C_door_12 ?_
    refine lv_iload_n hx hb d_C_door_15 rfl (lv_at hl 2 rfl) ?_
    refine lv_iload_n hx hb d_C_door_16 rfl (lv_at hl 3 rfl) ?_
    obtain ⟨h_2, hw⟩ := hw
    refine va_zast hx hb hK hP hD hS 6 1 rfl rfl h_2 d_C_door_17 (fun H locs hP hD hS => ?_)
    have hP : va_P D classes (cW a cI cZ places listed front turns fetched placeOf shelfAt isBlocked shelfOf counts (upd isOpen (x1).toNatClampNeg (vp_nar .boolean x2)) list ring stops fewest isExact shelves stopPlaces taken trial best) H := hP
    have hD : va_D A (cW a cI cZ places listed front turns fetched placeOf shelfAt isBlocked shelfOf counts (upd isOpen (x1).toNatClampNeg (vp_nar .boolean x2)) list ring stops fewest isExact shelves stopPlaces taken trial best) := hD
    refine lv_iload_n hx hb d_C_door_18 rfl (lv_at hl 0 rfl) ?_
    obtain ⟨h_3, hw⟩ := hw
    refine vx_ret ?_
    exact W.zret (v := (isOpen (x1).toNatClampNeg)) (ty := .boolean) hx hb hr h_3 (fun t ht hW => ⟨⟨(isOpen (x1).toNatClampNeg), (upd isOpen (x1).toNatClampNeg (vp_nar .boolean x2)), rfl, hw, by rw [ht]; exact hP, va_K.moved hW.alike hK, hD⟩, hS.F ht⟩) hS.2.2 d_C_door_19
