def p_M_turnsOf_L9_B (m_places : Int32) (m_shelves : Int32) (m_placeOf : Nat → Int32) (m_trial : Nat → Int32) (K_9 : Int32 → Int32 → Int32 → Prop) (rec_9 : Int32 → Int32 → Int32 → Prop) (x1_9 : Int32) (x2_9 : Int32) (x3_9 : Int32) : Prop := ((m_shelves ≤ x3_9 → K_9 x1_9 x2_9 x3_9) ∧ (¬ m_shelves ≤ x3_9 → (vp_in x3_9 8 ∧ (vp_in (m_trial (x3_9).toNatClampNeg) 24 ∧ (p_M_distance x1_9 (m_placeOf ((m_trial (x3_9).toNatClampNeg)).toNatClampNeg) m_places (fun r_4 => (vp_in x3_9 8 ∧ (vp_in (m_trial (x3_9).toNatClampNeg) 24 ∧ rec_9 (m_placeOf ((m_trial (x3_9).toNatClampNeg)).toNatClampNeg) (x2_9 + r_4) (x3_9 + 1)))))))))
def p_M_turnsOf_L9 (m_places : Int32) (m_shelves : Int32) (m_placeOf : Nat → Int32) (m_trial : Nat → Int32) (K_9 : Int32 → Int32 → Int32 → Prop) : Nat → Int32 → Int32 → Int32 → Prop
  | 0 => fun _ _ _ => False
  | n + 1 => p_M_turnsOf_L9_B m_places m_shelves m_placeOf m_trial K_9 (p_M_turnsOf_L9 m_places m_shelves m_placeOf m_trial K_9 n)
def p_M_turnsOf (m_places : Int32) (m_front : Int32) (m_shelves : Int32) (m_placeOf : Nat → Int32) (m_trial : Nat → Int32) (post : Int32 → Prop) : Prop := (∃ n, p_M_turnsOf_L9 m_places m_shelves m_placeOf m_trial (fun (k_16 : Int32) (k_17 : Int32) (k_18 : Int32) => post k_17) n m_front (0 : Int32) (0 : Int32))
abbrev rm_M_turnsOf : Room := { frames := 2, cells := 0, slots := 0, locals := 63 }
set_option maxHeartbeats 4000000 in
set_option maxRecDepth 100000 in
theorem c_M_turnsOf {l : Launch} {D : va_G} {sa : Nat → Nat} {cI cZ : ClassId} {sz : Nat} {d : Nat → Nat} {m_thrownCode : Int32} {m_places : Int32} {m_front : Int32} {m_turns : Int32} {m_fetched : Int32} {m_listed : Int32} {m_planned : Int32} {m_wasExact : Int32} {m_shelves : Int32} {m_placeOf : Nat → Int32} {m_blockedShelf : Nat → Int32} {m_on : Nat → Int32} {m_counts : Nat → Int32} {m_doors : Nat → Int32} {m_list : Nat → Int32} {m_plan : Nat → Int32} {m_shelf : Nat → Int32} {m_trial : Nat → Int32} {post : Int32 → Prop} (hw : p_M_turnsOf m_places m_front m_shelves m_placeOf m_trial post) : Met l y_M_turnsOf w_M_turnsOf rm_M_turnsOf (va_Pc [.ref (d 0)] (kP D sa [(cI, .int), (cZ, .boolean)] (mW d cI cZ m_thrownCode m_places m_front m_turns m_fetched m_listed m_planned m_wasExact m_shelves m_placeOf m_blockedShelf m_on m_counts m_doors m_list m_plan m_shelf m_trial) sz)) (vp_Si post) 0 0 (fun _ => False) := by
  refine Met.ofW (cc := b_M_turnsOf) (maxL := 4) (ret := (some .int)) (by decide) rfl ?_
  intro p e s m args below meth c s₁ B hml hv
  obtain ⟨rfl, hsz, hP, hK, hD0, hZ⟩ := hv
  have hx := B.exec
  have hb := B.bytes
  have hr := B.returns
  have hts := atoms_spec (ws := w_M_turnsOf) B.pre
  have hown : s.vm.findClass R_M = some m.cls := findClass_of_methodNamed B.named
  have hlocks := B.notSynchronized
  subst hsz
  have hD := hD0.self (sz := s.heap.size)
  generalize hAe : (va_A (mW d cI cZ m_thrownCode m_places m_front m_turns m_fetched m_listed m_planned m_wasExact m_shelves m_placeOf m_blockedShelf m_on m_counts m_doors m_list m_plan m_shelf m_trial) s.heap.size) = A at hD hZ
  have hA : ∀ q : Nat, s.heap.size ≤ q → A q := fun q h => by rw [← hAe]; exact Or.inr h
  have hS : va_S A s.heap s.heap [] := va_S.rf
  have hl := lv_entry ([.ref (d 0)]) (n := 4) (Nat.le_of_ble_eq_true rfl)
  rw [lg_entry_eq]
  generalize (lg_sl ([.ref (d 0)]) ++ List.replicate (4 - (lg_sl ([.ref (d 0)])).length) Slot.unset).toArray = ls at hl ⊢
  have hl : lv_has ls 4 [(0, .ref (d 0))] := hl
  refine lv_aload_n hx hb d_M_turnsOf_0 rfl (lv_at hl 0 rfl) ?_
  refine va_get (D := D) (ci := 2) (v := .int m_front) (C := R_M) (T := F_M) (N := 18) hx hb hts (iK iW_M) hown hK hP 0 rfl rfl 2 (by decide) (hts _ (kM kw_6549c401)) (fun _ h9 => h9) rfl d_M_turnsOf_1 ?_
  refine lv_istore_n (lv' := [(1, .int m_front), (0, .ref (d 0))]) hx hb d_M_turnsOf_4 rfl hl (by decide) rfl (fun ls hl => ?_)
  refine lv_iconst (v := (0 : Int32)) hx hb d_M_turnsOf_5 (by decide) ?_
  refine lv_istore_n (lv' := [(2, .int (0 : Int32)), (1, .int m_front), (0, .ref (d 0))]) hx hb d_M_turnsOf_6 rfl hl (by decide) rfl (fun ls hl => ?_)
  refine lv_iconst (v := (0 : Int32)) hx hb d_M_turnsOf_7 (by decide) ?_
  refine lv_istore_n (lv' := [(3, .int (0 : Int32)), (2, .int (0 : Int32)), (1, .int m_front), (0, .ref (d 0))]) hx hb d_M_turnsOf_8 rfl hl (by decide) rfl (fun ls hl => ?_)
  obtain ⟨K_9, hK_9⟩ : ∃ z : Int32 → Int32 → Int32 → Prop, z = (fun (k_16 : Int32) (k_17 : Int32) (k_18 : Int32) => post k_17) := ⟨_, rfl⟩
  have hw : ∃ n, p_M_turnsOf_L9 m_places m_shelves m_placeOf m_trial K_9 n m_front (0 : Int32) (0 : Int32) := by rw [hK_9]; exact hw
  obtain ⟨n_9, hw⟩ := hw
  have key_9 : ∀ (n : Nat) (x1_9 : Int32) (x2_8 : Int32) (x3_7 : Int32) (ls : Array Slot), p_M_turnsOf_L9 m_places m_shelves m_placeOf m_trial K_9 n x1_9 x2_8 x3_7 → lv_has ls 4 [(3, .int x3_7), (2, .int x2_8), (1, .int x1_9), (0, .ref (d 0))] → W p l e (headSpec w_M_turnsOf rm_M_turnsOf).room s m ([.ref (d 0)] : List Value).toArray below meth c s.heap [] 0 0 (MQ below (vp_Si post) ([.ref (d 0)] : List Value).toArray s 0 0 (fun _ => False)) (F0 m 9 ls []) := by
    intro n
    induction n with
    | zero => intro x1_9 x2_8 x3_7 ls hw hl; exact hw.elim
    | succ n ih_9 =>
      intro x1_9 x2_8 x3_7 ls hw hl
      have hw : p_M_turnsOf_L9_B m_places m_shelves m_placeOf m_trial K_9 (p_M_turnsOf_L9 m_places m_shelves m_placeOf m_trial K_9 n) x1_9 x2_8 x3_7 := hw
      generalize p_M_turnsOf_L9 m_places m_shelves m_placeOf m_trial K_9 n = rec_9 at hw ih_9
      refine lv_iload_n hx hb d_M_turnsOf_9 rfl (lv_at hl 0 rfl) ?_
      refine lv_aload_n hx hb d_M_turnsOf_10 rfl (lv_at hl 3 rfl) ?_
      refine va_get (D := D) (ci := 2) (v := .int m_shelves) (C := R_M) (T := F_M) (N := 18) hx hb hts (iK iW_M) hown hK hP 0 rfl rfl 15 (by decide) (hts _ (kM kw_545b2532)) (fun _ h9 => h9) rfl d_M_turnsOf_11 ?_
      refine lv_icmp_ge (tgt := 54) hx hb d_M_turnsOf_14 (by decide) (fun c_10 => ?_) (fun c_10 => ?_)
      · have hw := hw.1 c_10
        rw [hK_9] at hw
        have hl : lv_has ls 4 [(3, .int x3_7), (2, .int x2_8), (1, .int x1_9), (0, .ref (d 0))] := lv_sub hl [0, 1, 2, 3] rfl
        refine lv_iload_n hx hb d_M_turnsOf_54 rfl (lv_at hl 1 rfl) ?_
        exact W.iret (v := x2_8) hx hb hr (fun t ht _ => ⟨x2_8, rfl, hw, ht⟩) (by simp) d_M_turnsOf_55
      · have hw := hw.2 c_10
        refine lv_iload_n hx hb d_M_turnsOf_17 rfl (lv_at hl 1 rfl) ?_
        refine lv_aload_n hx hb d_M_turnsOf_18 rfl (lv_at hl 3 rfl) ?_
        refine lv_iload_n hx hb d_M_turnsOf_19 rfl (lv_at hl 2 rfl) ?_
        refine lv_aload_n hx hb d_M_turnsOf_20 rfl (lv_at hl 3 rfl) ?_
        refine va_get (D := D) (ci := 2) (v := .ref (d 1)) (C := R_M) (T := F_M) (N := 18) hx hb hts (iK iW_M) hown hK hP 0 rfl rfl 3 (by decide) (hts _ (kM kw_1dda6185)) (fun _ h9 => h9) rfl d_M_turnsOf_21 ?_
        refine lv_aload_n hx hb d_M_turnsOf_24 rfl (lv_at hl 3 rfl) ?_
        refine va_get (D := D) (ci := 2) (v := .ref (d 9)) (C := R_M) (T := F_M) (N := 18) hx hb hts (iK iW_M) hown hK hP 0 rfl rfl 17 (by decide) (hts _ (kM kw_b638f234)) (fun _ h9 => h9) rfl d_M_turnsOf_25 ?_
        refine lv_iload_n hx hb d_M_turnsOf_28 rfl (lv_at hl 0 rfl) ?_
        obtain ⟨h_11, hw⟩ := hw
        refine va_iald hx hb hK hP 9 0 rfl rfl h_11 d_M_turnsOf_29 ?_
        obtain ⟨h_12, hw⟩ := hw
        refine va_iald hx hb hK hP 1 0 rfl rfl h_12 d_M_turnsOf_30 ?_
        have hPc := hP
        have hDc := hD
        have hFc := va_free (wc := mW d cI cZ m_thrownCode m_places m_front m_turns m_fetched m_listed m_planned m_wasExact m_shelves m_placeOf m_blockedShelf m_on m_counts m_doors m_list m_plan m_shelf m_trial) hD hS hA [0, 1, 2, 3, 4, 5, 6, 7, 8, 9] rfl
        refine vp_callSi (W.runV (As := [.int x1_9, .int (m_placeOf ((m_trial (x3_7).toNatClampNeg)).toNatClampNeg)]) (rest := [.int x2_8]) ⟨hx, hb, hml, hown, hts⟩ (c_M_distance hw) (cwV 2 hts (gV k_M_distance kw_850ee39e kw_0c4e16f1 kw_70900a17 kw_98028344) rfl rfl rfl (by decide +kernel) ⟨(Nat.le_of_ble_eq_true rfl), (Nat.le_of_ble_eq_true rfl)⟩) ⟨kP.blind, va_recv hK hPc (ci := 2) (q0 := 0) rfl rfl, kP.of hK hPc hDc hZ hS hFc⟩ rfl rfl hl.1 rfl (lv_room (Nat.le_of_ble_eq_true rfl)) d_M_turnsOf_31 ⟨(Nat.le_of_ble_eq_true rfl), (Nat.le_of_ble_eq_true rfl)⟩) (fun r_13 hw => ?_)
        refine lv_iadd hx hb d_M_turnsOf_34 ?_
        refine lv_istore_n (lv' := [(2, .int (x2_8 + r_13)), (3, .int x3_7), (1, .int x1_9), (0, .ref (d 0))]) hx hb d_M_turnsOf_35 rfl hl (by decide) rfl (fun ls hl => ?_)
        refine lv_aload_n hx hb d_M_turnsOf_36 rfl (lv_at hl 3 rfl) ?_
        refine va_get (D := D) (ci := 2) (v := .ref (d 1)) (C := R_M) (T := F_M) (N := 18) hx hb hts (iK iW_M) hown hK hP 0 rfl rfl 3 (by decide) (hts _ (kM kw_1dda6185)) (fun _ h9 => h9) rfl d_M_turnsOf_37 ?_
        refine lv_aload_n hx hb d_M_turnsOf_40 rfl (lv_at hl 3 rfl) ?_
        refine va_get (D := D) (ci := 2) (v := .ref (d 9)) (C := R_M) (T := F_M) (N := 18) hx hb hts (iK iW_M) hown hK hP 0 rfl rfl 17 (by decide) (hts _ (kM kw_b638f234)) (fun _ h9 => h9) rfl d_M_turnsOf_41 ?_
        refine lv_iload_n hx hb d_M_turnsOf_44 rfl (lv_at hl 1 rfl) ?_
        obtain ⟨h_14, hw⟩ := hw
        refine va_iald hx hb hK hP 9 0 rfl rfl h_14 d_M_turnsOf_45 ?_
        obtain ⟨h_15, hw⟩ := hw
        refine va_iald hx hb hK hP 1 0 rfl rfl h_15 d_M_turnsOf_46 ?_
        refine lv_istore_n (lv' := [(1, .int (m_placeOf ((m_trial (x3_7).toNatClampNeg)).toNatClampNeg)), (2, .int (x2_8 + r_13)), (3, .int x3_7), (0, .ref (d 0))]) hx hb d_M_turnsOf_47 rfl hl (by decide) rfl (fun ls hl => ?_)
        refine lv_iinc (v := (x3_7 + 1)) (lv' := [(3, .int (x3_7 + 1)), (1, .int (m_placeOf ((m_trial (x3_7).toNatClampNeg)).toNatClampNeg)), (2, .int (x2_8 + r_13)), (0, .ref (d 0))]) hx hb d_M_turnsOf_48 hl (k := 2) rfl rfl (by decide) rfl (fun ls hl => ?_)
        refine lv_goto (tgt := 9) hx hb d_M_turnsOf_51 (by decide) ?_
        exact ih_9 (m_placeOf ((m_trial (x3_7).toNatClampNeg)).toNatClampNeg) (x2_8 + r_13) (x3_7 + 1) _ hw (lv_sub hl [0, 2, 1, 3] rfl)
  exact key_9 n_9 m_front (0 : Int32) (0 : Int32) _ hw (lv_sub hl [0, 1, 2, 3] rfl)
def p_M_byRule_L23_B (v2 : Int32) (v1 : Int32) (m_places : Int32) (m_shelves : Int32) (m_placeOf : Nat → Int32) (m_shelf : Nat → Int32) (K_23 : Int32 → Int32 → Prop) (rec_23 : Int32 → Int32 → Prop) (x4_23 : Int32) (x5_23 : Int32) : Prop := ((m_shelves ≤ x5_23 → K_23 x4_23 x5_23) ∧ (¬ m_shelves ≤ x5_23 → ((¬ ((v1 >>> (x5_23 &&& 31)) &&& (1 : Int32)) = 0 → rec_23 x4_23 (x5_23 + 1)) ∧ (((v1 >>> (x5_23 &&& 31)) &&& (1 : Int32)) = 0 → ((x4_23 < 0 → rec_23 x5_23 (x5_23 + 1)) ∧ (¬ x4_23 < 0 → (vp_in x5_23 8 ∧ (vp_in (m_shelf (x5_23).toNatClampNeg) 24 ∧ (p_M_distance v2 (m_placeOf ((m_shelf (x5_23).toNatClampNeg)).toNatClampNeg) m_places (fun r_9 => (vp_in x4_23 8 ∧ (vp_in (m_shelf (x4_23).toNatClampNeg) 24 ∧ (p_M_distance v2 (m_placeOf ((m_shelf (x4_23).toNatClampNeg)).toNatClampNeg) m_places (fun r_12 => ((r_12 ≤ r_9 → rec_23 x4_23 (x5_23 + 1)) ∧ (¬ r_12 ≤ r_9 → rec_23 x5_23 (x5_23 + 1)))))))))))))))))
def p_M_byRule_L23 (v2 : Int32) (v1 : Int32) (m_places : Int32) (m_shelves : Int32) (m_placeOf : Nat → Int32) (m_shelf : Nat → Int32) (K_23 : Int32 → Int32 → Prop) : Nat → Int32 → Int32 → Prop
  | 0 => fun _ _ => False
  | n + 1 => p_M_byRule_L23_B v2 v1 m_places m_shelves m_placeOf m_shelf K_23 (p_M_byRule_L23 v2 v1 m_places m_shelves m_placeOf m_shelf K_23 n)
def p_M_byRule_L9_B (m_places : Int32) (m_shelves : Int32) (m_placeOf : Nat → Int32) (m_shelf : Nat → Int32) (K_9 : Int32 → Int32 → Int32 → (Nat → Int32) → Prop) (rec_9 : Int32 → Int32 → Int32 → (Nat → Int32) → Prop) (x1_9 : Int32) (x2_9 : Int32) (x3_9 : Int32) (m_trial_9 : Nat → Int32) : Prop := ((m_shelves ≤ x3_9 → K_9 x1_9 x2_9 x3_9 m_trial_9) ∧ (¬ m_shelves ≤ x3_9 → (∃ n, p_M_byRule_L23 x2_9 x1_9 m_places m_shelves m_placeOf m_shelf (fun (k_28 : Int32) (k_29 : Int32) => (vp_in k_28 8 ∧ (vp_in x3_9 8 ∧ (vp_in k_28 8 ∧ (vp_in (m_shelf (k_28).toNatClampNeg) 24 ∧ rec_9 (x1_9 ||| ((1 : Int32) <<< (k_28 &&& 31))) (m_placeOf ((m_shelf (k_28).toNatClampNeg)).toNatClampNeg) (x3_9 + 1) (upd m_trial_9 (x3_9).toNatClampNeg (m_shelf (k_28).toNatClampNeg))))))) n (-1 : Int32) (0 : Int32))))
def p_M_byRule_L9 (m_places : Int32) (m_shelves : Int32) (m_placeOf : Nat → Int32) (m_shelf : Nat → Int32) (K_9 : Int32 → Int32 → Int32 → (Nat → Int32) → Prop) : Nat → Int32 → Int32 → Int32 → (Nat → Int32) → Prop
  | 0 => fun _ _ _ _ => False
  | n + 1 => p_M_byRule_L9_B m_places m_shelves m_placeOf m_shelf K_9 (p_M_byRule_L9 m_places m_shelves m_placeOf m_shelf K_9 n)
def p_M_byRule (m_places : Int32) (m_front : Int32) (m_shelves : Int32) (m_placeOf : Nat → Int32) (m_shelf : Nat → Int32) (m_trial : Nat → Int32) (post : (Nat → Int32) → Prop) : Prop := (∃ n, p_M_byRule_L9 m_places m_shelves m_placeOf m_shelf (fun (k_59 : Int32) (k_60 : Int32) (k_61 : Int32) (k_62 : Nat → Int32) => post k_62) n (0 : Int32) m_front (0 : Int32) m_trial)
abbrev rm_M_byRule : Room := { frames := 2, cells := 0, slots := 0, locals := 63 }
set_option maxHeartbeats 4000000 in
set_option maxRecDepth 100000 in
theorem c_M_byRule {l : Launch} {D : va_G} {sa : Nat → Nat} {cI cZ : ClassId} {sz : Nat} {d : Nat → Nat} {m_thrownCode : Int32} {m_places : Int32} {m_front : Int32} {m_turns : Int32} {m_fetched : Int32} {m_listed : Int32} {m_planned : Int32} {m_wasExact : Int32} {m_shelves : Int32} {m_placeOf : Nat → Int32} {m_blockedShelf : Nat → Int32} {m_on : Nat → Int32} {m_counts : Nat → Int32} {m_doors : Nat → Int32} {m_list : Nat → Int32} {m_plan : Nat → Int32} {m_shelf : Nat → Int32} {m_trial : Nat → Int32} {post : (Nat → Int32) → Prop} (hw : p_M_byRule m_places m_front m_shelves m_placeOf m_shelf m_trial post) : Met l y_M_byRule w_M_byRule rm_M_byRule (va_Pc [.ref (d 0)] (kP D sa [(cI, .int), (cZ, .boolean)] (mW d cI cZ m_thrownCode m_places m_front m_turns m_fetched m_listed m_planned m_wasExact m_shelves m_placeOf m_blockedShelf m_on m_counts m_doors m_list m_plan m_shelf m_trial) sz)) (va_Qv (fun (u : (Nat → Int32)) => post u) (fun (u : (Nat → Int32)) t => va_P D classes (mW d cI cZ m_thrownCode m_places m_front m_turns m_fetched m_listed m_planned m_wasExact m_shelves m_placeOf m_blockedShelf m_on m_counts m_doors m_list m_plan m_shelf u) t.heap ∧ va_K D classes [(cI, .int), (cZ, .boolean)] t ∧ va_D (va_A (mW d cI cZ m_thrownCode m_places m_front m_turns m_fetched m_listed m_planned m_wasExact m_shelves m_placeOf m_blockedShelf m_on m_counts m_doors m_list m_plan m_shelf m_trial) sz) (mW d cI cZ m_thrownCode m_places m_front m_turns m_fetched m_listed m_planned m_wasExact m_shelves m_placeOf m_blockedShelf m_on m_counts m_doors m_list m_plan m_shelf u)) (va_A (mW d cI cZ m_thrownCode m_places m_front m_turns m_fetched m_listed m_planned m_wasExact m_shelves m_placeOf m_blockedShelf m_on m_counts m_doors m_list m_plan m_shelf m_trial) sz)) 0 0 (va_A (mW d cI cZ m_thrownCode m_places m_front m_turns m_fetched m_listed m_planned m_wasExact m_shelves m_placeOf m_blockedShelf m_on m_counts m_doors m_list m_plan m_shelf m_trial) sz) := by
  refine Met.ofW (cc := b_M_byRule) (maxL := 7) (ret := none) (by decide) rfl ?_
  intro p e s m args below meth c s₁ B hml hv
  obtain ⟨rfl, hsz, hP, hK, hD0, hZ⟩ := hv
  have hx := B.exec
  have hb := B.bytes
  have hr := B.returns
  have hts := atoms_spec (ws := w_M_byRule) B.pre
  have hown : s.vm.findClass R_M = some m.cls := findClass_of_methodNamed B.named
  have hlocks := B.notSynchronized
  subst hsz
  have hD := hD0.self (sz := s.heap.size)
  generalize hAe : (va_A (mW d cI cZ m_thrownCode m_places m_front m_turns m_fetched m_listed m_planned m_wasExact m_shelves m_placeOf m_blockedShelf m_on m_counts m_doors m_list m_plan m_shelf m_trial) s.heap.size) = A at hD hZ ⊢
  have hA : ∀ q : Nat, s.heap.size ≤ q → A q := fun q h => by rw [← hAe]; exact Or.inr h
  have hS : va_S A s.heap s.heap [] := va_S.rf
  have hl := lv_entry ([.ref (d 0)]) (n := 7) (Nat.le_of_ble_eq_true rfl)
  rw [lg_entry_eq]
  generalize (lg_sl ([.ref (d 0)]) ++ List.replicate (7 - (lg_sl ([.ref (d 0)])).length) Slot.unset).toArray = ls at hl ⊢
  have hl : lv_has ls 7 [(0, .ref (d 0))] := hl
  refine lv_iconst (v := (0 : Int32)) hx hb d_M_byRule_0 (by decide) ?_
  refine lv_istore_n (lv' := [(1, .int (0 : Int32)), (0, .ref (d 0))]) hx hb d_M_byRule_1 rfl hl (by decide) rfl (fun ls hl => ?_)
  refine lv_aload_n hx hb d_M_byRule_2 rfl (lv_at hl 1 rfl) ?_
  refine va_get (D := D) (ci := 2) (v := .int m_front) (C := R_M) (T := F_M) (N := 18) hx hb hts (iK iW_M) hown hK hP 0 rfl rfl 2 (by decide) (hts _ (kM kw_6549c401)) (fun _ h9 => h9) rfl d_M_byRule_3 ?_
  refine lv_istore_n (lv' := [(2, .int m_front), (1, .int (0 : Int32)), (0, .ref (d 0))]) hx hb d_M_byRule_6 rfl hl (by decide) rfl (fun ls hl => ?_)
  refine lv_iconst (v := (0 : Int32)) hx hb d_M_byRule_7 (by decide) ?_
  refine lv_istore_n (lv' := [(3, .int (0 : Int32)), (2, .int m_front), (1, .int (0 : Int32)), (0, .ref (d 0))]) hx hb d_M_byRule_8 rfl hl (by decide) rfl (fun ls hl => ?_)
  obtain ⟨K_9, hK_9⟩ : ∃ z : Int32 → Int32 → Int32 → (Nat → Int32) → Prop, z = (fun (k_59 : Int32) (k_60 : Int32) (k_61 : Int32) (k_62 : Nat → Int32) => post k_62) := ⟨_, rfl⟩
  have hw : ∃ n, p_M_byRule_L9 m_places m_shelves m_placeOf m_shelf K_9 n (0 : Int32) m_front (0 : Int32) m_trial := by rw [hK_9]; exact hw
  obtain ⟨n_9, hw⟩ := hw
  have key_9 : ∀ (n : Nat) (x1_36 : Int32) (x2_35 : Int32) (x3_34 : Int32) (m_trial_37 : Nat → Int32) (H : Heap) (locs : List Loc) (ls : Array Slot), p_M_byRule_L9 m_places m_shelves m_placeOf m_shelf K_9 n x1_36 x2_35 x3_34 m_trial_37 → va_P D classes (mW d cI cZ m_thrownCode m_places m_front m_turns m_fetched m_listed m_planned m_wasExact m_shelves m_placeOf m_blockedShelf m_on m_counts m_doors m_list m_plan m_shelf m_trial_37) H → va_D A (mW d cI cZ m_thrownCode m_places m_front m_turns m_fetched m_listed m_planned m_wasExact m_shelves m_placeOf m_blockedShelf m_on m_counts m_doors m_list m_plan m_shelf m_trial_37) → va_S A s.heap H locs → lv_has ls 7 [(3, .int x3_34), (2, .int x2_35), (1, .int x1_36), (0, .ref (d 0))] → W p l e (headSpec w_M_byRule rm_M_byRule).room s m ([.ref (d 0)] : List Value).toArray below meth c H locs 0 0 (MQ below (va_Qv (fun (u : (Nat → Int32)) => post u) (fun (u : (Nat → Int32)) t => va_P D classes (mW d cI cZ m_thrownCode m_places m_front m_turns m_fetched m_listed m_planned m_wasExact m_shelves m_placeOf m_blockedShelf m_on m_counts m_doors m_list m_plan m_shelf u) t.heap ∧ va_K D classes [(cI, .int), (cZ, .boolean)] t ∧ va_D A (mW d cI cZ m_thrownCode m_places m_front m_turns m_fetched m_listed m_planned m_wasExact m_shelves m_placeOf m_blockedShelf m_on m_counts m_doors m_list m_plan m_shelf u)) A) ([.ref (d 0)] : List Value).toArray s 0 0 A) (F0 m 9 ls []) := by
    intro n
    induction n with
    | zero => intro x1_36 x2_35 x3_34 m_trial_37 H locs ls hw hP hD hS hl; exact hw.elim
    | succ n ih_9 =>
      intro x1_36 x2_35 x3_34 m_trial_37 H locs ls hw hP hD hS hl
      have hw : p_M_byRule_L9_B m_places m_shelves m_placeOf m_shelf K_9 (p_M_byRule_L9 m_places m_shelves m_placeOf m_shelf K_9 n) x1_36 x2_35 x3_34 m_trial_37 := hw
      generalize p_M_byRule_L9 m_places m_shelves m_placeOf m_shelf K_9 n = rec_9 at hw ih_9
      refine lv_iload_n hx hb d_M_byRule_9 rfl (lv_at hl 0 rfl) ?_
      refine lv_aload_n hx hb d_M_byRule_10 rfl (lv_at hl 3 rfl) ?_
      refine va_get (D := D) (ci := 2) (v := .int m_shelves) (C := R_M) (T := F_M) (N := 18) hx hb hts (iK iW_M) hown hK hP 0 rfl rfl 15 (by decide) (hts _ (kM kw_545b2532)) (fun _ h9 => h9) rfl d_M_byRule_11 ?_
      refine lv_icmp_ge (tgt := 144) hx hb d_M_byRule_14 (by decide) (fun c_38 => ?_) (fun c_38 => ?_)
      · have hw := hw.1 c_38
        rw [hK_9] at hw
        have hl : lv_has ls 7 [(3, .int x3_34), (2, .int x2_35), (1, .int x1_36), (0, .ref (d 0))] := lv_sub hl [0, 1, 2, 3] rfl
        exact W.vret hx hb hr (fun t ht hW => ⟨⟨m_trial_37, rfl, hw, by rw [ht]; exact hP, va_K.moved hW.alike hK, hD⟩, hS.F ht⟩) hS.2.2 d_M_byRule_144
      · have hw := hw.2 c_38
        refine lv_iconst (v := (-1 : Int32)) hx hb d_M_byRule_17 (by decide) ?_
        refine lv_istore (lv' := [(4, .int (-1 : Int32)), (3, .int x3_34), (2, .int x2_35), (1, .int x1_36), (0, .ref (d 0))]) hx hb d_M_byRule_18 hl (by decide) rfl (fun ls hl => ?_)
        refine lv_iconst (v := (0 : Int32)) hx hb d_M_byRule_20 (by decide) ?_
        refine lv_istore (lv' := [(5, .int (0 : Int32)), (4, .int (-1 : Int32)), (3, .int x3_34), (2, .int x2_35), (1, .int x1_36), (0, .ref (d 0))]) hx hb d_M_byRule_21 hl (by decide) rfl (fun ls hl => ?_)
        obtain ⟨K_23, hK_23⟩ : ∃ z : Int32 → Int32 → Prop, z = (fun (k_53 : Int32) (k_54 : Int32) => (vp_in k_53 8 ∧ (vp_in x3_34 8 ∧ (vp_in k_53 8 ∧ (vp_in (m_shelf (k_53).toNatClampNeg) 24 ∧ rec_9 (x1_36 ||| ((1 : Int32) <<< (k_53 &&& 31))) (m_placeOf ((m_shelf (k_53).toNatClampNeg)).toNatClampNeg) (x3_34 + 1) (upd m_trial_37 (x3_34).toNatClampNeg (m_shelf (k_53).toNatClampNeg))))))) := ⟨_, rfl⟩
        have hw : ∃ n, p_M_byRule_L23 x2_35 x1_36 m_places m_shelves m_placeOf m_shelf K_23 n (-1 : Int32) (0 : Int32) := by rw [hK_23]; exact hw
        obtain ⟨n_23, hw⟩ := hw
        have key_23 : ∀ (n : Nat) (x4_40 : Int32) (x5_39 : Int32) (ls : Array Slot), p_M_byRule_L23 x2_35 x1_36 m_places m_shelves m_placeOf m_shelf K_23 n x4_40 x5_39 → lv_has ls 7 [(5, .int x5_39), (4, .int x4_40), (3, .int x3_34), (2, .int x2_35), (1, .int x1_36), (0, .ref (d 0))] → W p l e (headSpec w_M_byRule rm_M_byRule).room s m ([.ref (d 0)] : List Value).toArray below meth c H locs 0 0 (MQ below (va_Qv (fun (u : (Nat → Int32)) => post u) (fun (u : (Nat → Int32)) t => va_P D classes (mW d cI cZ m_thrownCode m_places m_front m_turns m_fetched m_listed m_planned m_wasExact m_shelves m_placeOf m_blockedShelf m_on m_counts m_doors m_list m_plan m_shelf u) t.heap ∧ va_K D classes [(cI, .int), (cZ, .boolean)] t ∧ va_D A (mW d cI cZ m_thrownCode m_places m_front m_turns m_fetched m_listed m_planned m_wasExact m_shelves m_placeOf m_blockedShelf m_on m_counts m_doors m_list m_plan m_shelf u)) A) ([.ref (d 0)] : List Value).toArray s 0 0 A) (F0 m 23 ls []) := by
          intro n
          induction n with
          | zero => intro x4_40 x5_39 ls hw hl; exact hw.elim
          | succ n ih_23 =>
            intro x4_40 x5_39 ls hw hl
            have hw : p_M_byRule_L23_B x2_35 x1_36 m_places m_shelves m_placeOf m_shelf K_23 (p_M_byRule_L23 x2_35 x1_36 m_places m_shelves m_placeOf m_shelf K_23 n) x4_40 x5_39 := hw
            generalize p_M_byRule_L23 x2_35 x1_36 m_places m_shelves m_placeOf m_shelf K_23 n = rec_23 at hw ih_23
            refine lv_iload hx hb d_M_byRule_23 (lv_at hl 0 rfl) ?_
            refine lv_aload_n hx hb d_M_byRule_25 rfl (lv_at hl 5 rfl) ?_
            refine va_get (D := D) (ci := 2) (v := .int m_shelves) (C := R_M) (T := F_M) (N := 18) hx hb hts (iK iW_M) hown hK hP 0 rfl rfl 15 (by decide) (hts _ (kM kw_545b2532)) (fun _ h9 => h9) rfl d_M_byRule_26 ?_
            refine lv_icmp_ge (tgt := 105) hx hb d_M_byRule_29 (by decide) (fun c_41 => ?_) (fun c_41 => ?_)
            · have hw := hw.1 c_41
              rw [hK_23] at hw
              have hl : lv_has ls 7 [(5, .int x5_39), (4, .int x4_40), (3, .int x3_34), (2, .int x2_35), (1, .int x1_36), (0, .ref (d 0))] := lv_sub hl [0, 1, 2, 3, 4, 5] rfl
              refine lv_iload_n hx hb d_M_byRule_105 rfl (lv_at hl 4 rfl) ?_
              refine lv_iconst (v := (1 : Int32)) hx hb d_M_byRule_106 (by decide) ?_
              refine lv_iload hx hb d_M_byRule_107 (lv_at hl 1 rfl) ?_
              refine lv_ishl hx hb d_M_byRule_109 ?_
              refine lv_ior hx hb d_M_byRule_110 ?_
              refine lv_istore_n (lv' := [(1, .int (x1_36 ||| ((1 : Int32) <<< (x4_40 &&& 31)))), (5, .int x5_39), (4, .int x4_40), (3, .int x3_34), (2, .int x2_35), (0, .ref (d 0))]) hx hb d_M_byRule_111 rfl hl (by decide) rfl (fun ls hl => ?_)
              refine lv_aload_n hx hb d_M_byRule_112 rfl (lv_at hl 5 rfl) ?_
              refine va_get (D := D) (ci := 2) (v := .ref (d 9)) (C := R_M) (T := F_M) (N := 18) hx hb hts (iK iW_M) hown hK hP 0 rfl rfl 17 (by decide) (hts _ (kM kw_b638f234)) (fun _ h9 => h9) rfl d_M_byRule_113 ?_
              refine lv_iload_n hx hb d_M_byRule_116 rfl (lv_at hl 3 rfl) ?_
              refine lv_aload_n hx hb d_M_byRule_117 rfl (lv_at hl 5 rfl) ?_
              refine va_get (D := D) (ci := 2) (v := .ref (d 8)) (C := R_M) (T := F_M) (N := 18) hx hb hts (iK iW_M) hown hK hP 0 rfl rfl 16 (by decide) (hts _ (kM kw_97fc661c)) (fun _ h9 => h9) rfl d_M_byRule_118 ?_
              refine lv_iload hx hb d_M_byRule_121 (lv_at hl 2 rfl) ?_
              obtain ⟨h_55, hw⟩ := hw
              refine va_iald hx hb hK hP 8 0 rfl rfl h_55 d_M_byRule_123 ?_
              obtain ⟨h_56, hw⟩ := hw
              refine va_iast hx hb hK hP hD hS 9 0 rfl rfl h_56 d_M_byRule_124 (fun H locs hP hD hS => ?_)
              have hP : va_P D classes (mW d cI cZ m_thrownCode m_places m_front m_turns m_fetched m_listed m_planned m_wasExact m_shelves m_placeOf m_blockedShelf m_on m_counts m_doors m_list m_plan m_shelf (upd m_trial_37 (x3_34).toNatClampNeg (m_shelf (x4_40).toNatClampNeg))) H := hP
              have hD : va_D A (mW d cI cZ m_thrownCode m_places m_front m_turns m_fetched m_listed m_planned m_wasExact m_shelves m_placeOf m_blockedShelf m_on m_counts m_doors m_list m_plan m_shelf (upd m_trial_37 (x3_34).toNatClampNeg (m_shelf (x4_40).toNatClampNeg))) := hD
              refine lv_aload_n hx hb d_M_byRule_125 rfl (lv_at hl 5 rfl) ?_
              refine va_get (D := D) (ci := 2) (v := .ref (d 1)) (C := R_M) (T := F_M) (N := 18) hx hb hts (iK iW_M) hown hK hP 0 rfl rfl 3 (by decide) (hts _ (kM kw_1dda6185)) (fun _ h9 => h9) rfl d_M_byRule_126 ?_
              refine lv_aload_n hx hb d_M_byRule_129 rfl (lv_at hl 5 rfl) ?_
              refine va_get (D := D) (ci := 2) (v := .ref (d 8)) (C := R_M) (T := F_M) (N := 18) hx hb hts (iK iW_M) hown hK hP 0 rfl rfl 16 (by decide) (hts _ (kM kw_97fc661c)) (fun _ h9 => h9) rfl d_M_byRule_130 ?_
              refine lv_iload hx hb d_M_byRule_133 (lv_at hl 2 rfl) ?_
              obtain ⟨h_57, hw⟩ := hw
              refine va_iald hx hb hK hP 8 0 rfl rfl h_57 d_M_byRule_135 ?_
              obtain ⟨h_58, hw⟩ := hw
              refine va_iald hx hb hK hP 1 0 rfl rfl h_58 d_M_byRule_136 ?_
              refine lv_istore_n (lv' := [(2, .int (m_placeOf ((m_shelf (x4_40).toNatClampNeg)).toNatClampNeg)), (1, .int (x1_36 ||| ((1 : Int32) <<< (x4_40 &&& 31)))), (5, .int x5_39), (4, .int x4_40), (3, .int x3_34), (0, .ref (d 0))]) hx hb d_M_byRule_137 rfl hl (by decide) rfl (fun ls hl => ?_)
              refine lv_iinc (v := (x3_34 + 1)) (lv' := [(3, .int (x3_34 + 1)), (2, .int (m_placeOf ((m_shelf (x4_40).toNatClampNeg)).toNatClampNeg)), (1, .int (x1_36 ||| ((1 : Int32) <<< (x4_40 &&& 31)))), (5, .int x5_39), (4, .int x4_40), (0, .ref (d 0))]) hx hb d_M_byRule_138 hl (k := 4) rfl rfl (by decide) rfl (fun ls hl => ?_)
              refine lv_goto (tgt := 9) hx hb d_M_byRule_141 (by decide) ?_
              exact ih_9 (x1_36 ||| ((1 : Int32) <<< (x4_40 &&& 31))) (m_placeOf ((m_shelf (x4_40).toNatClampNeg)).toNatClampNeg) (x3_34 + 1) (upd m_trial_37 (x3_34).toNatClampNeg (m_shelf (x4_40).toNatClampNeg)) _ _ _ hw hP hD hS (lv_sub hl [0, 1, 2, 5] rfl)
            · have hw := hw.2 c_41
              refine lv_iload_n hx hb d_M_byRule_32 rfl (lv_at hl 4 rfl) ?_
              refine lv_iload hx hb d_M_byRule_33 (lv_at hl 0 rfl) ?_
              refine lv_ishr hx hb d_M_byRule_35 ?_
              refine lv_iconst (v := (1 : Int32)) hx hb d_M_byRule_36 (by decide) ?_
              refine lv_iand hx hb d_M_byRule_37 ?_
              refine lv_if_ne (tgt := 45) hx hb d_M_byRule_38 (by decide) (fun c_42 => ?_) (fun c_42 => ?_)
              · have hw := hw.1 c_42
                refine lv_iconst (v := (0 : Int32)) hx hb d_M_byRule_45 (by decide) ?_
                refine lv_istore (lv' := [(6, .int (0 : Int32)), (5, .int x5_39), (4, .int x4_40), (3, .int x3_34), (2, .int x2_35), (1, .int x1_36), (0, .ref (d 0))]) hx hb d_M_byRule_46 hl (by decide) rfl (fun ls hl => ?_)
                refine lv_iload hx hb d_M_byRule_48 (lv_at hl 0 rfl) ?_
                refine lv_if_eq (tgt := 99) hx hb d_M_byRule_50 (by decide) (fun c_43 => ?_) (fun c_43 => absurd c_43 (by decide))
                refine lv_iinc (v := (x5_39 + 1)) (lv' := [(5, .int (x5_39 + 1)), (6, .int (0 : Int32)), (4, .int x4_40), (3, .int x3_34), (2, .int x2_35), (1, .int x1_36), (0, .ref (d 0))]) hx hb d_M_byRule_99 hl (k := 1) rfl rfl (by decide) rfl (fun ls hl => ?_)
                refine lv_goto (tgt := 23) hx hb d_M_byRule_102 (by decide) ?_
                exact ih_23 x4_40 (x5_39 + 1) _ hw (lv_sub hl [0, 2, 3, 4, 5, 6] rfl)
              · have hw := hw.2 c_42
                refine lv_iconst (v := (1 : Int32)) hx hb d_M_byRule_41 (by decide) ?_
                refine lv_goto (tgt := 46) hx hb d_M_byRule_42 (by decide) ?_
                refine lv_istore (lv' := [(6, .int (1 : Int32)), (5, .int x5_39), (4, .int x4_40), (3, .int x3_34), (2, .int x2_35), (1, .int x1_36), (0, .ref (d 0))]) hx hb d_M_byRule_46 hl (by decide) rfl (fun ls hl => ?_)
                refine lv_iload hx hb d_M_byRule_48 (lv_at hl 0 rfl) ?_
                refine lv_if_eq (tgt := 99) hx hb d_M_byRule_50 (by decide) (fun c_44 => absurd c_44 (by decide)) (fun c_44 => ?_)
                refine lv_iload hx hb d_M_byRule_53 (lv_at hl 2 rfl) ?_
                refine lv_if_lt (tgt := 95) hx hb d_M_byRule_55 (by decide) (fun c_45 => ?_) (fun c_45 => ?_)
                · have hw := hw.1 c_45
                  refine lv_iload hx hb d_M_byRule_95 (lv_at hl 1 rfl) ?_
                  refine lv_istore (lv' := [(4, .int x5_39), (6, .int (1 : Int32)), (5, .int x5_39), (3, .int x3_34), (2, .int x2_35), (1, .int x1_36), (0, .ref (d 0))]) hx hb d_M_byRule_97 hl (by decide) rfl (fun ls hl => ?_)
                  refine lv_iinc (v := (x5_39 + 1)) (lv' := [(5, .int (x5_39 + 1)), (4, .int x5_39), (6, .int (1 : Int32)), (3, .int x3_34), (2, .int x2_35), (1, .int x1_36), (0, .ref (d 0))]) hx hb d_M_byRule_99 hl (k := 2) rfl rfl (by decide) rfl (fun ls hl => ?_)
                  refine lv_goto (tgt := 23) hx hb d_M_byRule_102 (by decide) ?_
                  exact ih_23 x5_39 (x5_39 + 1) _ hw (lv_sub hl [0, 1, 3, 4, 5, 6] rfl)
                · have hw := hw.2 c_45
                  refine lv_aload_n hx hb d_M_byRule_58 rfl (lv_at hl 6 rfl) ?_
                  refine lv_iload_n hx hb d_M_byRule_59 rfl (lv_at hl 4 rfl) ?_
                  refine lv_aload_n hx hb d_M_byRule_60 rfl (lv_at hl 6 rfl) ?_
                  refine va_get (D := D) (ci := 2) (v := .ref (d 1)) (C := R_M) (T := F_M) (N := 18) hx hb hts (iK iW_M) hown hK hP 0 rfl rfl 3 (by decide) (hts _ (kM kw_1dda6185)) (fun _ h9 => h9) rfl d_M_byRule_61 ?_
                  refine lv_aload_n hx hb d_M_byRule_64 rfl (lv_at hl 6 rfl) ?_
                  refine va_get (D := D) (ci := 2) (v := .ref (d 8)) (C := R_M) (T := F_M) (N := 18) hx hb hts (iK iW_M) hown hK hP 0 rfl rfl 16 (by decide) (hts _ (kM kw_97fc661c)) (fun _ h9 => h9) rfl d_M_byRule_65 ?_
                  refine lv_iload hx hb d_M_byRule_68 (lv_at hl 1 rfl) ?_
                  obtain ⟨h_46, hw⟩ := hw
                  refine va_iald hx hb hK hP 8 0 rfl rfl h_46 d_M_byRule_70 ?_
                  obtain ⟨h_47, hw⟩ := hw
                  refine va_iald hx hb hK hP 1 0 rfl rfl h_47 d_M_byRule_71 ?_
                  have hPc := hP
                  have hDc := hD
                  have hFc := va_free (wc := mW d cI cZ m_thrownCode m_places m_front m_turns m_fetched m_listed m_planned m_wasExact m_shelves m_placeOf m_blockedShelf m_on m_counts m_doors m_list m_plan m_shelf m_trial_37) hD hS hA [0, 1, 2, 3, 4, 5, 6, 7, 8, 9] rfl
                  refine vp_callSi (W.runV (As := [.int x2_35, .int (m_placeOf ((m_shelf (x5_39).toNatClampNeg)).toNatClampNeg)]) (rest := []) ⟨hx, hb, hml, hown, hts⟩ (c_M_distance hw) (cwV 2 hts (gV k_M_distance kw_850ee39e kw_0c4e16f1 kw_70900a17 kw_98028344) rfl rfl rfl (by decide +kernel) ⟨(Nat.le_of_ble_eq_true rfl), (Nat.le_of_ble_eq_true rfl)⟩) ⟨kP.blind, va_recv hK hPc (ci := 2) (q0 := 0) rfl rfl, kP.of hK hPc hDc hZ hS hFc⟩ rfl rfl hl.1 rfl (lv_room (Nat.le_of_ble_eq_true rfl)) d_M_byRule_72 ⟨(Nat.le_of_ble_eq_true rfl), (Nat.le_of_ble_eq_true rfl)⟩) (fun r_48 hw => ?_)
                  refine lv_aload_n hx hb d_M_byRule_75 rfl (lv_at hl 6 rfl) ?_
                  refine lv_iload_n hx hb d_M_byRule_76 rfl (lv_at hl 4 rfl) ?_
                  refine lv_aload_n hx hb d_M_byRule_77 rfl (lv_at hl 6 rfl) ?_
                  refine va_get (D := D) (ci := 2) (v := .ref (d 1)) (C := R_M) (T := F_M) (N := 18) hx hb hts (iK iW_M) hown hK hP 0 rfl rfl 3 (by decide) (hts _ (kM kw_1dda6185)) (fun _ h9 => h9) rfl d_M_byRule_78 ?_
                  refine lv_aload_n hx hb d_M_byRule_81 rfl (lv_at hl 6 rfl) ?_
                  refine va_get (D := D) (ci := 2) (v := .ref (d 8)) (C := R_M) (T := F_M) (N := 18) hx hb hts (iK iW_M) hown hK hP 0 rfl rfl 16 (by decide) (hts _ (kM kw_97fc661c)) (fun _ h9 => h9) rfl d_M_byRule_82 ?_
                  refine lv_iload hx hb d_M_byRule_85 (lv_at hl 2 rfl) ?_
                  obtain ⟨h_49, hw⟩ := hw
                  refine va_iald hx hb hK hP 8 0 rfl rfl h_49 d_M_byRule_87 ?_
                  obtain ⟨h_50, hw⟩ := hw
                  refine va_iald hx hb hK hP 1 0 rfl rfl h_50 d_M_byRule_88 ?_
                  have hPc := hP
                  have hDc := hD
                  have hFc := va_free (wc := mW d cI cZ m_thrownCode m_places m_front m_turns m_fetched m_listed m_planned m_wasExact m_shelves m_placeOf m_blockedShelf m_on m_counts m_doors m_list m_plan m_shelf m_trial_37) hD hS hA [0, 1, 2, 3, 4, 5, 6, 7, 8, 9] rfl
                  refine vp_callSi (W.runV (As := [.int x2_35, .int (m_placeOf ((m_shelf (x4_40).toNatClampNeg)).toNatClampNeg)]) (rest := [.int r_48]) ⟨hx, hb, hml, hown, hts⟩ (c_M_distance hw) (cwV 2 hts (gV k_M_distance kw_850ee39e kw_0c4e16f1 kw_70900a17 kw_98028344) rfl rfl rfl (by decide +kernel) ⟨(Nat.le_of_ble_eq_true rfl), (Nat.le_of_ble_eq_true rfl)⟩) ⟨kP.blind, va_recv hK hPc (ci := 2) (q0 := 0) rfl rfl, kP.of hK hPc hDc hZ hS hFc⟩ rfl rfl hl.1 rfl (lv_room (Nat.le_of_ble_eq_true rfl)) d_M_byRule_89 ⟨(Nat.le_of_ble_eq_true rfl), (Nat.le_of_ble_eq_true rfl)⟩) (fun r_51 hw => ?_)
                  refine lv_icmp_ge (tgt := 99) hx hb d_M_byRule_92 (by decide) (fun c_52 => ?_) (fun c_52 => ?_)
                  · have hw := hw.1 c_52
                    refine lv_iinc (v := (x5_39 + 1)) (lv' := [(5, .int (x5_39 + 1)), (6, .int (1 : Int32)), (4, .int x4_40), (3, .int x3_34), (2, .int x2_35), (1, .int x1_36), (0, .ref (d 0))]) hx hb d_M_byRule_99 hl (k := 1) rfl rfl (by decide) rfl (fun ls hl => ?_)
                    refine lv_goto (tgt := 23) hx hb d_M_byRule_102 (by decide) ?_
                    exact ih_23 x4_40 (x5_39 + 1) _ hw (lv_sub hl [0, 2, 3, 4, 5, 6] rfl)
                  · have hw := hw.2 c_52
                    refine lv_iload hx hb d_M_byRule_95 (lv_at hl 1 rfl) ?_
                    refine lv_istore (lv' := [(4, .int x5_39), (6, .int (1 : Int32)), (5, .int x5_39), (3, .int x3_34), (2, .int x2_35), (1, .int x1_36), (0, .ref (d 0))]) hx hb d_M_byRule_97 hl (by decide) rfl (fun ls hl => ?_)
                    refine lv_iinc (v := (x5_39 + 1)) (lv' := [(5, .int (x5_39 + 1)), (4, .int x5_39), (6, .int (1 : Int32)), (3, .int x3_34), (2, .int x2_35), (1, .int x1_36), (0, .ref (d 0))]) hx hb d_M_byRule_99 hl (k := 2) rfl rfl (by decide) rfl (fun ls hl => ?_)
                    refine lv_goto (tgt := 23) hx hb d_M_byRule_102 (by decide) ?_
                    exact ih_23 x5_39 (x5_39 + 1) _ hw (lv_sub hl [0, 1, 3, 4, 5, 6] rfl)
        exact key_23 n_23 (-1 : Int32) (0 : Int32) _ hw (lv_sub hl [0, 1, 2, 3, 4, 5] rfl)
  exact key_9 n_9 (0 : Int32) m_front (0 : Int32) m_trial _ _ _ hw hP hD hS (lv_sub hl [0, 1, 2, 3] rfl)
def p_M_thrown (m_thrownCode : Int32) (post : Int32 → Prop) : Prop := post m_thrownCode
abbrev rm_M_thrown : Room := { frames := 1, cells := 0, slots := 0, locals := 40 }
set_option maxHeartbeats 4000000 in
set_option maxRecDepth 100000 in
theorem c_M_thrown {l : Launch} {D : va_G} {sa : Nat → Nat} {cI cZ : ClassId} {sz : Nat} {d : Nat → Nat} {m_thrownCode : Int32} {m_places : Int32} {m_front : Int32} {m_turns : Int32} {m_fetched : Int32} {m_listed : Int32} {m_planned : Int32} {m_wasExact : Int32} {m_shelves : Int32} {m_placeOf : Nat → Int32} {m_blockedShelf : Nat → Int32} {m_on : Nat → Int32} {m_counts : Nat → Int32} {m_doors : Nat → Int32} {m_list : Nat → Int32} {m_plan : Nat → Int32} {m_shelf : Nat → Int32} {m_trial : Nat → Int32} {post : Int32 → Prop} (hw : p_M_thrown m_thrownCode post) : Met l y_M_thrown w_M_thrown rm_M_thrown (va_Pc [.ref (d 0)] (kP D sa [(cI, .int), (cZ, .boolean)] (mW d cI cZ m_thrownCode m_places m_front m_turns m_fetched m_listed m_planned m_wasExact m_shelves m_placeOf m_blockedShelf m_on m_counts m_doors m_list m_plan m_shelf m_trial) sz)) (vp_Si post) 0 0 (fun _ => False) := by
  refine Met.ofW (cc := b_M_thrown) (maxL := 1) (ret := (some .int)) (by decide) rfl ?_
  intro p e s m args below meth c s₁ B hml hv
  obtain ⟨rfl, hsz, hP, hK, hD0, hZ⟩ := hv
  have hx := B.exec
  have hb := B.bytes
  have hr := B.returns
  have hts := atoms_spec (ws := w_M_thrown) B.pre
  have hown : s.vm.findClass R_M = some m.cls := findClass_of_methodNamed B.named
  have hlocks := B.notSynchronized
  subst hsz
  have hD := hD0.self (sz := s.heap.size)
  generalize hAe : (va_A (mW d cI cZ m_thrownCode m_places m_front m_turns m_fetched m_listed m_planned m_wasExact m_shelves m_placeOf m_blockedShelf m_on m_counts m_doors m_list m_plan m_shelf m_trial) s.heap.size) = A at hD hZ
  have hA : ∀ q : Nat, s.heap.size ≤ q → A q := fun q h => by rw [← hAe]; exact Or.inr h
  have hS : va_S A s.heap s.heap [] := va_S.rf
  have hl := lv_entry ([.ref (d 0)]) (n := 1) (Nat.le_of_ble_eq_true rfl)
  rw [lg_entry_eq]
  generalize (lg_sl ([.ref (d 0)]) ++ List.replicate (1 - (lg_sl ([.ref (d 0)])).length) Slot.unset).toArray = ls at hl ⊢
  have hl : lv_has ls 1 [(0, .ref (d 0))] := hl
  refine lv_aload_n hx hb d_M_thrown_0 rfl (lv_at hl 0 rfl) ?_
  refine va_get (D := D) (ci := 2) (v := .int m_thrownCode) (C := R_M) (T := F_M) (N := 18) hx hb hts (iK iW_M) hown hK hP 0 rfl rfl 0 (by decide) (hts _ (kM kw_8fca7397)) (fun _ h9 => h9) rfl d_M_thrown_1 ?_
  exact W.iret (v := m_thrownCode) hx hb hr (fun t ht _ => ⟨m_thrownCode, rfl, hw, ht⟩) (by simp) d_M_thrown_4
def p_M_put (x1 : Int32) (x2 : Int32) (m_places : Int32) (m_on : Nat → Int32) (post : Int32 → Int32 → (Nat → Int32) → Prop) : Prop := (p_M_none x1 m_places (fun r_1 => ((r_1 = 0 → (p_M_none x2 (20 : Int32) (fun r_3 => ((r_3 = 0 → (vp_in x2 20 ∧ (((m_on (x2).toNatClampNeg) < 0 → (p_M_lying x1 m_on (fun r_7 => ((¬ r_7 = (4 : Int32) → (vp_in x2 20 ∧ (p_M_lying x1 (upd m_on (x2).toNatClampNeg x1) (fun r_11 => post r_11 (0 : Int32) (upd m_on (x2).toNatClampNeg x1))))) ∧ (r_7 = (4 : Int32) → post (0 : Int32) (4 : Int32) m_on))))) ∧ (¬ (m_on (x2).toNatClampNeg) < 0 → post (0 : Int32) (3 : Int32) m_on)))) ∧ (¬ r_3 = 0 → post (0 : Int32) (2 : Int32) m_on))))) ∧ (¬ r_1 = 0 → post (0 : Int32) (1 : Int32) m_on))))
abbrev rm_M_put : Room := { frames := 2, cells := 0, slots := 0, locals := 63 }
set_option maxHeartbeats 4000000 in
set_option maxRecDepth 100000 in
theorem c_M_put {l : Launch} {D : va_G} {sa : Nat → Nat} {cI cZ : ClassId} {sz : Nat} {d : Nat → Nat} {m_thrownCode : Int32} {m_places : Int32} {m_front : Int32} {m_turns : Int32} {m_fetched : Int32} {m_listed : Int32} {m_planned : Int32} {m_wasExact : Int32} {m_shelves : Int32} {m_placeOf : Nat → Int32} {m_blockedShelf : Nat → Int32} {m_on : Nat → Int32} {m_counts : Nat → Int32} {m_doors : Nat → Int32} {m_list : Nat → Int32} {m_plan : Nat → Int32} {m_shelf : Nat → Int32} {m_trial : Nat → Int32} {x1 : Int32} {x2 : Int32} {post : Int32 → Int32 → (Nat → Int32) → Prop} (hw : p_M_put x1 x2 m_places m_on post) : Met l y_M_put w_M_put rm_M_put (va_Pc [.ref (d 0), .int x1, .int x2] (kP D sa [(cI, .int), (cZ, .boolean)] (mW d cI cZ m_thrownCode m_places m_front m_turns m_fetched m_listed m_planned m_wasExact m_shelves m_placeOf m_blockedShelf m_on m_counts m_doors m_list m_plan m_shelf m_trial) sz)) (va_Qi (fun r (u : Int32 × (Nat → Int32)) => post r u.1 u.2) (fun (u : Int32 × (Nat → Int32)) t => va_P D classes (mW d cI cZ u.1 m_places m_front m_turns m_fetched m_listed m_planned m_wasExact m_shelves m_placeOf m_blockedShelf u.2 m_counts m_doors m_list m_plan m_shelf m_trial) t.heap ∧ va_K D classes [(cI, .int), (cZ, .boolean)] t ∧ va_D (va_A (mW d cI cZ m_thrownCode m_places m_front m_turns m_fetched m_listed m_planned m_wasExact m_shelves m_placeOf m_blockedShelf m_on m_counts m_doors m_list m_plan m_shelf m_trial) sz) (mW d cI cZ u.1 m_places m_front m_turns m_fetched m_listed m_planned m_wasExact m_shelves m_placeOf m_blockedShelf u.2 m_counts m_doors m_list m_plan m_shelf m_trial)) (va_A (mW d cI cZ m_thrownCode m_places m_front m_turns m_fetched m_listed m_planned m_wasExact m_shelves m_placeOf m_blockedShelf m_on m_counts m_doors m_list m_plan m_shelf m_trial) sz)) 0 0 (va_A (mW d cI cZ m_thrownCode m_places m_front m_turns m_fetched m_listed m_planned m_wasExact m_shelves m_placeOf m_blockedShelf m_on m_counts m_doors m_list m_plan m_shelf m_trial) sz) := by
  refine Met.ofW (cc := b_M_put) (maxL := 3) (ret := (some .int)) (by decide) rfl ?_
  intro p e s m args below meth c s₁ B hml hv
  obtain ⟨rfl, hsz, hP, hK, hD0, hZ⟩ := hv
  have hx := B.exec
  have hb := B.bytes
  have hr := B.returns
  have hts := atoms_spec (ws := w_M_put) B.pre
  have hown : s.vm.findClass R_M = some m.cls := findClass_of_methodNamed B.named
  have hlocks := B.notSynchronized
  subst hsz
  have hD := hD0.self (sz := s.heap.size)
  generalize hAe : (va_A (mW d cI cZ m_thrownCode m_places m_front m_turns m_fetched m_listed m_planned m_wasExact m_shelves m_placeOf m_blockedShelf m_on m_counts m_doors m_list m_plan m_shelf m_trial) s.heap.size) = A at hD hZ ⊢
  have hA : ∀ q : Nat, s.heap.size ≤ q → A q := fun q h => by rw [← hAe]; exact Or.inr h
  have hS : va_S A s.heap s.heap [] := va_S.rf
  have hl := lv_entry ([.ref (d 0), .int x1, .int x2]) (n := 3) (Nat.le_of_ble_eq_true rfl)
  rw [lg_entry_eq]
  generalize (lg_sl ([.ref (d 0), .int x1, .int x2]) ++ List.replicate (3 - (lg_sl ([.ref (d 0), .int x1, .int x2])).length) Slot.unset).toArray = ls at hl ⊢
  have hl : lv_has ls 3 [(0, .ref (d 0)), (1, .int x1), (2, .int x2)] := hl
  refine lv_aload_n hx hb d_M_put_0 rfl (lv_at hl 0 rfl) ?_
  refine lv_iload_n hx hb d_M_put_1 rfl (lv_at hl 1 rfl) ?_
  refine lv_aload_n hx hb d_M_put_2 rfl (lv_at hl 0 rfl) ?_
  refine va_get (D := D) (ci := 2) (v := .int m_places) (C := R_M) (T := F_M) (N := 18) hx hb hts (iK iW_M) hown hK hP 0 rfl rfl 1 (by decide) (hts _ (kM kw_7139d127)) (fun _ h9 => h9) rfl d_M_put_3 ?_
  have hPc := hP.sub (ws' := []) [] rfl
  have hDc := hD.sub (ws' := []) [] (by decide) rfl
  have hFc := va_free (wc := []) hD hS hA [] rfl
  refine vp_callSi (W.runS (As := [.int x1, .int m_places]) (rest := [.ref (d 0)]) ⟨hx, hb, hml, hown, hts⟩ (c_M_none hw) (cwS 2 hts (gS k_M_none kw_344abd76 kw_8e7adc0a kw_98028344) rfl rfl rfl (by decide +kernel) ⟨(Nat.le_of_ble_eq_true rfl), (Nat.le_of_ble_eq_true rfl)⟩) ⟨kP.blind, kP.of hK hPc hDc hZ hS hFc⟩ rfl rfl hl.1 rfl (lv_room (Nat.le_of_ble_eq_true rfl)) d_M_put_6 ⟨(Nat.le_of_ble_eq_true rfl), (Nat.le_of_ble_eq_true rfl)⟩) (fun r_1 hw => ?_)
  refine lv_if_eq (tgt := 16) hx hb d_M_put_9 (by decide) (fun c_2 => ?_) (fun c_2 => ?_)
  · have hw := hw.1 c_2
    refine lv_iload_n hx hb d_M_put_16 rfl (lv_at hl 2 rfl) ?_
    refine lv_bipush (v := (20 : Int32)) hx hb d_M_put_17 (by decide) ?_
    have hPc := hP.sub (ws' := []) [] rfl
    have hDc := hD.sub (ws' := []) [] (by decide) rfl
    have hFc := va_free (wc := []) hD hS hA [] rfl
    refine vp_callSi (W.runS (As := [.int x2, .int (20 : Int32)]) (rest := [.ref (d 0)]) ⟨hx, hb, hml, hown, hts⟩ (c_M_none hw) (cwS 2 hts (gS k_M_none kw_344abd76 kw_8e7adc0a kw_98028344) rfl rfl rfl (by decide +kernel) ⟨(Nat.le_of_ble_eq_true rfl), (Nat.le_of_ble_eq_true rfl)⟩) ⟨kP.blind, kP.of hK hPc hDc hZ hS hFc⟩ rfl rfl hl.1 rfl (lv_room (Nat.le_of_ble_eq_true rfl)) d_M_put_19 ⟨(Nat.le_of_ble_eq_true rfl), (Nat.le_of_ble_eq_true rfl)⟩) (fun r_3 hw => ?_)
    refine lv_if_eq (tgt := 29) hx hb d_M_put_22 (by decide) (fun c_4 => ?_) (fun c_4 => ?_)
    · have hw := hw.1 c_4
      refine lv_aload_n hx hb d_M_put_29 rfl (lv_at hl 0 rfl) ?_
      refine va_get (D := D) (ci := 2) (v := .ref (d 3)) (C := R_M) (T := F_M) (N := 18) hx hb hts (iK iW_M) hown hK hP 0 rfl rfl 5 (by decide) (hts _ (kM kw_7ca6b28c)) (fun _ h9 => h9) rfl d_M_put_30 ?_
      refine lv_iload_n hx hb d_M_put_33 rfl (lv_at hl 2 rfl) ?_
      obtain ⟨h_5, hw⟩ := hw
      refine va_iald hx hb hK hP 3 0 rfl rfl h_5 d_M_put_34 ?_
      refine lv_if_lt (tgt := 42) hx hb d_M_put_35 (by decide) (fun c_6 => ?_) (fun c_6 => ?_)
      · have hw := hw.1 c_6
        refine lv_aload_n hx hb d_M_put_42 rfl (lv_at hl 0 rfl) ?_
        refine lv_iload_n hx hb d_M_put_43 rfl (lv_at hl 1 rfl) ?_
        have hPc := hP
        have hDc := hD
        have hFc := va_free (wc := mW d cI cZ m_thrownCode m_places m_front m_turns m_fetched m_listed m_planned m_wasExact m_shelves m_placeOf m_blockedShelf m_on m_counts m_doors m_list m_plan m_shelf m_trial) hD hS hA [0, 1, 2, 3, 4, 5, 6, 7, 8, 9] rfl
        refine vp_callSi (W.runV (As := [.int x1]) (rest := [.ref (d 0)]) ⟨hx, hb, hml, hown, hts⟩ (c_M_lying hw) (cwV 1 hts (gV k_M_lying kw_b7f6d692 kw_f4b7001a kw_67ab8fea kw_98028344) rfl rfl rfl (by decide +kernel) ⟨(Nat.le_of_ble_eq_true rfl), (Nat.le_of_ble_eq_true rfl)⟩) ⟨kP.blind, va_recv hK hPc (ci := 2) (q0 := 0) rfl rfl, kP.of hK hPc hDc hZ hS hFc⟩ rfl rfl hl.1 rfl (lv_room (Nat.le_of_ble_eq_true rfl)) d_M_put_44 ⟨(Nat.le_of_ble_eq_true rfl), (Nat.le_of_ble_eq_true rfl)⟩) (fun r_7 hw => ?_)
        refine lv_iconst (v := (4 : Int32)) hx hb d_M_put_47 (by decide) ?_
        refine lv_icmp_ne (tgt := 55) hx hb d_M_put_48 (by decide) (fun c_8 => ?_) (fun c_8 => ?_)
        · have hw := hw.1 c_8
          refine lv_iconst (v := (0 : Int32)) hx hb d_M_put_55 (by decide) ?_
          refine va_put (D := D) (ci := 2) (v := .int (0 : Int32)) (ty := .int) (C := R_M) (T := F_M) (N := 18) hx hb hts (iK iW_M) t_M t_M_ok n_M hown hK hP hD hS 0 rfl rfl 0 (by decide) (hts _ (kM kw_8fca7397)) (fun _ h9 => h9) rfl (by decide +kernel) rfl rfl (Nat.le_of_ble_eq_true rfl) d_M_put_56 (fun H locs hP hD hS => ?_)
          have hP : va_P D classes (mW d cI cZ (0 : Int32) m_places m_front m_turns m_fetched m_listed m_planned m_wasExact m_shelves m_placeOf m_blockedShelf m_on m_counts m_doors m_list m_plan m_shelf m_trial) H := hP
          have hD : va_D A (mW d cI cZ (0 : Int32) m_places m_front m_turns m_fetched m_listed m_planned m_wasExact m_shelves m_placeOf m_blockedShelf m_on m_counts m_doors m_list m_plan m_shelf m_trial) := hD
          refine lv_aload_n hx hb d_M_put_59 rfl (lv_at hl 0 rfl) ?_
          refine va_get (D := D) (ci := 2) (v := .int (0 : Int32)) (C := R_M) (T := F_M) (N := 18) hx hb hts (iK iW_M) hown hK hP 0 rfl rfl 0 (by decide) (hts _ (kM kw_8fca7397)) (fun _ h9 => h9) rfl d_M_put_60 ?_
          refine lv_if_eq (tgt := 68) hx hb d_M_put_63 (by decide) (fun c_9 => ?_) (fun c_9 => absurd c_9 (by decide))
          refine lv_aload_n hx hb d_M_put_68 rfl (lv_at hl 0 rfl) ?_
          refine va_get (D := D) (ci := 2) (v := .ref (d 3)) (C := R_M) (T := F_M) (N := 18) hx hb hts (iK iW_M) hown hK hP 0 rfl rfl 5 (by decide) (hts _ (kM kw_7ca6b28c)) (fun _ h9 => h9) rfl d_M_put_69 ?_
          refine lv_iload_n hx hb d_M_put_72 rfl (lv_at hl 2 rfl) ?_
          refine lv_iload_n hx hb d_M_put_73 rfl (lv_at hl 1 rfl) ?_
          obtain ⟨h_10, hw⟩ := hw
          refine va_iast hx hb hK hP hD hS 3 0 rfl rfl h_10 d_M_put_74 (fun H locs hP hD hS => ?_)
          have hP : va_P D classes (mW d cI cZ (0 : Int32) m_places m_front m_turns m_fetched m_listed m_planned m_wasExact m_shelves m_placeOf m_blockedShelf (upd m_on (x2).toNatClampNeg x1) m_counts m_doors m_list m_plan m_shelf m_trial) H := hP
          have hD : va_D A (mW d cI cZ (0 : Int32) m_places m_front m_turns m_fetched m_listed m_planned m_wasExact m_shelves m_placeOf m_blockedShelf (upd m_on (x2).toNatClampNeg x1) m_counts m_doors m_list m_plan m_shelf m_trial) := hD
          refine lv_aload_n hx hb d_M_put_75 rfl (lv_at hl 0 rfl) ?_
          refine lv_iload_n hx hb d_M_put_76 rfl (lv_at hl 1 rfl) ?_
          have hPc := hP
          have hDc := hD
          have hFc := va_free (wc := mW d cI cZ (0 : Int32) m_places m_front m_turns m_fetched m_listed m_planned m_wasExact m_shelves m_placeOf m_blockedShelf (upd m_on (x2).toNatClampNeg x1) m_counts m_doors m_list m_plan m_shelf m_trial) hD hS hA [0, 1, 2, 3, 4, 5, 6, 7, 8, 9] rfl
          refine vp_callSi (W.runV (As := [.int x1]) (rest := []) ⟨hx, hb, hml, hown, hts⟩ (c_M_lying hw) (cwV 1 hts (gV k_M_lying kw_b7f6d692 kw_f4b7001a kw_67ab8fea kw_98028344) rfl rfl rfl (by decide +kernel) ⟨(Nat.le_of_ble_eq_true rfl), (Nat.le_of_ble_eq_true rfl)⟩) ⟨kP.blind, va_recv hK hPc (ci := 2) (q0 := 0) rfl rfl, kP.of hK hPc hDc hZ hS hFc⟩ rfl rfl hl.1 rfl (lv_room (Nat.le_of_ble_eq_true rfl)) d_M_put_77 ⟨(Nat.le_of_ble_eq_true rfl), (Nat.le_of_ble_eq_true rfl)⟩) (fun r_11 hw => ?_)
          exact W.iret (v := r_11) hx hb hr (fun t ht hW => ⟨⟨r_11, ((0 : Int32), (upd m_on (x2).toNatClampNeg x1)), rfl, hw, by rw [ht]; exact hP, va_K.moved hW.alike hK, hD⟩, hS.F ht⟩) hS.2.2 d_M_put_80
        · have hw := hw.2 c_8
          refine lv_iconst (v := (4 : Int32)) hx hb d_M_put_51 (by decide) ?_
          refine lv_goto (tgt := 56) hx hb d_M_put_52 (by decide) ?_
          refine va_put (D := D) (ci := 2) (v := .int (4 : Int32)) (ty := .int) (C := R_M) (T := F_M) (N := 18) hx hb hts (iK iW_M) t_M t_M_ok n_M hown hK hP hD hS 0 rfl rfl 0 (by decide) (hts _ (kM kw_8fca7397)) (fun _ h9 => h9) rfl (by decide +kernel) rfl rfl (Nat.le_of_ble_eq_true rfl) d_M_put_56 (fun H locs hP hD hS => ?_)
          have hP : va_P D classes (mW d cI cZ (4 : Int32) m_places m_front m_turns m_fetched m_listed m_planned m_wasExact m_shelves m_placeOf m_blockedShelf m_on m_counts m_doors m_list m_plan m_shelf m_trial) H := hP
          have hD : va_D A (mW d cI cZ (4 : Int32) m_places m_front m_turns m_fetched m_listed m_planned m_wasExact m_shelves m_placeOf m_blockedShelf m_on m_counts m_doors m_list m_plan m_shelf m_trial) := hD
          refine lv_aload_n hx hb d_M_put_59 rfl (lv_at hl 0 rfl) ?_
          refine va_get (D := D) (ci := 2) (v := .int (4 : Int32)) (C := R_M) (T := F_M) (N := 18) hx hb hts (iK iW_M) hown hK hP 0 rfl rfl 0 (by decide) (hts _ (kM kw_8fca7397)) (fun _ h9 => h9) rfl d_M_put_60 ?_
          refine lv_if_eq (tgt := 68) hx hb d_M_put_63 (by decide) (fun c_12 => absurd c_12 (by decide)) (fun c_12 => ?_)
          refine lv_iconst (v := (0 : Int32)) hx hb d_M_put_66 (by decide) ?_
          exact W.iret (v := (0 : Int32)) hx hb hr (fun t ht hW => ⟨⟨(0 : Int32), ((4 : Int32), m_on), rfl, hw, by rw [ht]; exact hP, va_K.moved hW.alike hK, hD⟩, hS.F ht⟩) hS.2.2 d_M_put_67
      · have hw := hw.2 c_6
        refine lv_iconst (v := (3 : Int32)) hx hb d_M_put_38 (by decide) ?_
        refine lv_goto (tgt := 56) hx hb d_M_put_39 (by decide) ?_
        refine va_put (D := D) (ci := 2) (v := .int (3 : Int32)) (ty := .int) (C := R_M) (T := F_M) (N := 18) hx hb hts (iK iW_M) t_M t_M_ok n_M hown hK hP hD hS 0 rfl rfl 0 (by decide) (hts _ (kM kw_8fca7397)) (fun _ h9 => h9) rfl (by decide +kernel) rfl rfl (Nat.le_of_ble_eq_true rfl) d_M_put_56 (fun H locs hP hD hS => ?_)
        have hP : va_P D classes (mW d cI cZ (3 : Int32) m_places m_front m_turns m_fetched m_listed m_planned m_wasExact m_shelves m_placeOf m_blockedShelf m_on m_counts m_doors m_list m_plan m_shelf m_trial) H := hP
        have hD : va_D A (mW d cI cZ (3 : Int32) m_places m_front m_turns m_fetched m_listed m_planned m_wasExact m_shelves m_placeOf m_blockedShelf m_on m_counts m_doors m_list m_plan m_shelf m_trial) := hD
        refine lv_aload_n hx hb d_M_put_59 rfl (lv_at hl 0 rfl) ?_
        refine va_get (D := D) (ci := 2) (v := .int (3 : Int32)) (C := R_M) (T := F_M) (N := 18) hx hb hts (iK iW_M) hown hK hP 0 rfl rfl 0 (by decide) (hts _ (kM kw_8fca7397)) (fun _ h9 => h9) rfl d_M_put_60 ?_
        refine lv_if_eq (tgt := 68) hx hb d_M_put_63 (by decide) (fun c_13 => absurd c_13 (by decide)) (fun c_13 => ?_)
        refine lv_iconst (v := (0 : Int32)) hx hb d_M_put_66 (by decide) ?_
        exact W.iret (v := (0 : Int32)) hx hb hr (fun t ht hW => ⟨⟨(0 : Int32), ((3 : Int32), m_on), rfl, hw, by rw [ht]; exact hP, va_K.moved hW.alike hK, hD⟩, hS.F ht⟩) hS.2.2 d_M_put_67
    · have hw := hw.2 c_4
      refine lv_iconst (v := (2 : Int32)) hx hb d_M_put_25 (by decide) ?_
      refine lv_goto (tgt := 56) hx hb d_M_put_26 (by decide) ?_
      refine va_put (D := D) (ci := 2) (v := .int (2 : Int32)) (ty := .int) (C := R_M) (T := F_M) (N := 18) hx hb hts (iK iW_M) t_M t_M_ok n_M hown hK hP hD hS 0 rfl rfl 0 (by decide) (hts _ (kM kw_8fca7397)) (fun _ h9 => h9) rfl (by decide +kernel) rfl rfl (Nat.le_of_ble_eq_true rfl) d_M_put_56 (fun H locs hP hD hS => ?_)
      have hP : va_P D classes (mW d cI cZ (2 : Int32) m_places m_front m_turns m_fetched m_listed m_planned m_wasExact m_shelves m_placeOf m_blockedShelf m_on m_counts m_doors m_list m_plan m_shelf m_trial) H := hP
      have hD : va_D A (mW d cI cZ (2 : Int32) m_places m_front m_turns m_fetched m_listed m_planned m_wasExact m_shelves m_placeOf m_blockedShelf m_on m_counts m_doors m_list m_plan m_shelf m_trial) := hD
      refine lv_aload_n hx hb d_M_put_59 rfl (lv_at hl 0 rfl) ?_
      refine va_get (D := D) (ci := 2) (v := .int (2 : Int32)) (C := R_M) (T := F_M) (N := 18) hx hb hts (iK iW_M) hown hK hP 0 rfl rfl 0 (by decide) (hts _ (kM kw_8fca7397)) (fun _ h9 => h9) rfl d_M_put_60 ?_
      refine lv_if_eq (tgt := 68) hx hb d_M_put_63 (by decide) (fun c_14 => absurd c_14 (by decide)) (fun c_14 => ?_)
      refine lv_iconst (v := (0 : Int32)) hx hb d_M_put_66 (by decide) ?_
      exact W.iret (v := (0 : Int32)) hx hb hr (fun t ht hW => ⟨⟨(0 : Int32), ((2 : Int32), m_on), rfl, hw, by rw [ht]; exact hP, va_K.moved hW.alike hK, hD⟩, hS.F ht⟩) hS.2.2 d_M_put_67
  · have hw := hw.2 c_2
    refine lv_iconst (v := (1 : Int32)) hx hb d_M_put_12 (by decide) ?_
    refine lv_goto (tgt := 56) hx hb d_M_put_13 (by decide) ?_
    refine va_put (D := D) (ci := 2) (v := .int (1 : Int32)) (ty := .int) (C := R_M) (T := F_M) (N := 18) hx hb hts (iK iW_M) t_M t_M_ok n_M hown hK hP hD hS 0 rfl rfl 0 (by decide) (hts _ (kM kw_8fca7397)) (fun _ h9 => h9) rfl (by decide +kernel) rfl rfl (Nat.le_of_ble_eq_true rfl) d_M_put_56 (fun H locs hP hD hS => ?_)
    have hP : va_P D classes (mW d cI cZ (1 : Int32) m_places m_front m_turns m_fetched m_listed m_planned m_wasExact m_shelves m_placeOf m_blockedShelf m_on m_counts m_doors m_list m_plan m_shelf m_trial) H := hP
    have hD : va_D A (mW d cI cZ (1 : Int32) m_places m_front m_turns m_fetched m_listed m_planned m_wasExact m_shelves m_placeOf m_blockedShelf m_on m_counts m_doors m_list m_plan m_shelf m_trial) := hD
    refine lv_aload_n hx hb d_M_put_59 rfl (lv_at hl 0 rfl) ?_
    refine va_get (D := D) (ci := 2) (v := .int (1 : Int32)) (C := R_M) (T := F_M) (N := 18) hx hb hts (iK iW_M) hown hK hP 0 rfl rfl 0 (by decide) (hts _ (kM kw_8fca7397)) (fun _ h9 => h9) rfl d_M_put_60 ?_
    refine lv_if_eq (tgt := 68) hx hb d_M_put_63 (by decide) (fun c_15 => absurd c_15 (by decide)) (fun c_15 => ?_)
    refine lv_iconst (v := (0 : Int32)) hx hb d_M_put_66 (by decide) ?_
    exact W.iret (v := (0 : Int32)) hx hb hr (fun t ht hW => ⟨⟨(0 : Int32), ((1 : Int32), m_on), rfl, hw, by rw [ht]; exact hP, va_K.moved hW.alike hK, hD⟩, hS.F ht⟩) hS.2.2 d_M_put_67
def p_M_turn (x1 : Int32) (m_places : Int32) (m_front : Int32) (m_turns : Int32) (m_doors : Nat → Int32) (post : Int32 → Int32 → Int32 → Int32 → Prop) : Prop := ((¬ m_places = 0 → (p_M_none x1 m_places (fun r_2 => ((r_2 = 0 → (p_M_anyDoor m_doors (fun r_4 => ((r_4 = 0 → (p_M_distance m_front x1 m_places (fun r_7 => post r_7 (0 : Int32) x1 (m_turns + r_7)))) ∧ (¬ r_4 = 0 → post (0 : Int32) (3 : Int32) m_front m_turns))))) ∧ (¬ r_2 = 0 → post (0 : Int32) (2 : Int32) m_front m_turns))))) ∧ (m_places = 0 → post (0 : Int32) (1 : Int32) m_front m_turns))
abbrev rm_M_turn : Room := { frames := 2, cells := 0, slots := 0, locals := 63 }
set_option maxHeartbeats 4000000 in
set_option maxRecDepth 100000 in
theorem c_M_turn {l : Launch} {D : va_G} {sa : Nat → Nat} {cI cZ : ClassId} {sz : Nat} {d : Nat → Nat} {m_thrownCode : Int32} {m_places : Int32} {m_front : Int32} {m_turns : Int32} {m_fetched : Int32} {m_listed : Int32} {m_planned : Int32} {m_wasExact : Int32} {m_shelves : Int32} {m_placeOf : Nat → Int32} {m_blockedShelf : Nat → Int32} {m_on : Nat → Int32} {m_counts : Nat → Int32} {m_doors : Nat → Int32} {m_list : Nat → Int32} {m_plan : Nat → Int32} {m_shelf : Nat → Int32} {m_trial : Nat → Int32} {x1 : Int32} {post : Int32 → Int32 → Int32 → Int32 → Prop} (hw : p_M_turn x1 m_places m_front m_turns m_doors post) : Met l y_M_turn w_M_turn rm_M_turn (va_Pc [.ref (d 0), .int x1] (kP D sa [(cI, .int), (cZ, .boolean)] (mW d cI cZ m_thrownCode m_places m_front m_turns m_fetched m_listed m_planned m_wasExact m_shelves m_placeOf m_blockedShelf m_on m_counts m_doors m_list m_plan m_shelf m_trial) sz)) (va_Qi (fun r (u : Int32 × Int32 × Int32) => post r u.1 u.2.1 u.2.2) (fun (u : Int32 × Int32 × Int32) t => va_P D classes (mW d cI cZ u.1 m_places u.2.1 u.2.2 m_fetched m_listed m_planned m_wasExact m_shelves m_placeOf m_blockedShelf m_on m_counts m_doors m_list m_plan m_shelf m_trial) t.heap ∧ va_K D classes [(cI, .int), (cZ, .boolean)] t ∧ va_D (va_A (mW d cI cZ m_thrownCode m_places m_front m_turns m_fetched m_listed m_planned m_wasExact m_shelves m_placeOf m_blockedShelf m_on m_counts m_doors m_list m_plan m_shelf m_trial) sz) (mW d cI cZ u.1 m_places u.2.1 u.2.2 m_fetched m_listed m_planned m_wasExact m_shelves m_placeOf m_blockedShelf m_on m_counts m_doors m_list m_plan m_shelf m_trial)) (va_A (mW d cI cZ m_thrownCode m_places m_front m_turns m_fetched m_listed m_planned m_wasExact m_shelves m_placeOf m_blockedShelf m_on m_counts m_doors m_list m_plan m_shelf m_trial) sz)) 0 0 (va_A (mW d cI cZ m_thrownCode m_places m_front m_turns m_fetched m_listed m_planned m_wasExact m_shelves m_placeOf m_blockedShelf m_on m_counts m_doors m_list m_plan m_shelf m_trial) sz) := by
  refine Met.ofW (cc := b_M_turn) (maxL := 3) (ret := (some .int)) (by decide) rfl ?_
  intro p e s m args below meth c s₁ B hml hv
  obtain ⟨rfl, hsz, hP, hK, hD0, hZ⟩ := hv
  have hx := B.exec
  have hb := B.bytes
  have hr := B.returns
  have hts := atoms_spec (ws := w_M_turn) B.pre
  have hown : s.vm.findClass R_M = some m.cls := findClass_of_methodNamed B.named
  have hlocks := B.notSynchronized
  subst hsz
  have hD := hD0.self (sz := s.heap.size)
  generalize hAe : (va_A (mW d cI cZ m_thrownCode m_places m_front m_turns m_fetched m_listed m_planned m_wasExact m_shelves m_placeOf m_blockedShelf m_on m_counts m_doors m_list m_plan m_shelf m_trial) s.heap.size) = A at hD hZ ⊢
  have hA : ∀ q : Nat, s.heap.size ≤ q → A q := fun q h => by rw [← hAe]; exact Or.inr h
  have hS : va_S A s.heap s.heap [] := va_S.rf
  have hl := lv_entry ([.ref (d 0), .int x1]) (n := 3) (Nat.le_of_ble_eq_true rfl)
  rw [lg_entry_eq]
  generalize (lg_sl ([.ref (d 0), .int x1]) ++ List.replicate (3 - (lg_sl ([.ref (d 0), .int x1])).length) Slot.unset).toArray = ls at hl ⊢
  have hl : lv_has ls 3 [(0, .ref (d 0)), (1, .int x1)] := hl
  refine lv_aload_n hx hb d_M_turn_0 rfl (lv_at hl 0 rfl) ?_
  refine lv_aload_n hx hb d_M_turn_1 rfl (lv_at hl 0 rfl) ?_
  refine va_get (D := D) (ci := 2) (v := .int m_places) (C := R_M) (T := F_M) (N := 18) hx hb hts (iK iW_M) hown hK hP 0 rfl rfl 1 (by decide) (hts _ (kM kw_7139d127)) (fun _ h9 => h9) rfl d_M_turn_2 ?_
  refine lv_if_ne (tgt := 12) hx hb d_M_turn_5 (by decide) (fun c_1 => ?_) (fun c_1 => ?_)
  · have hw := hw.1 c_1
    refine lv_iload_n hx hb d_M_turn_12 rfl (lv_at hl 1 rfl) ?_
    refine lv_aload_n hx hb d_M_turn_13 rfl (lv_at hl 0 rfl) ?_
    refine va_get (D := D) (ci := 2) (v := .int m_places) (C := R_M) (T := F_M) (N := 18) hx hb hts (iK iW_M) hown hK hP 0 rfl rfl 1 (by decide) (hts _ (kM kw_7139d127)) (fun _ h9 => h9) rfl d_M_turn_14 ?_
    have hPc := hP.sub (ws' := []) [] rfl
    have hDc := hD.sub (ws' := []) [] (by decide) rfl
    have hFc := va_free (wc := []) hD hS hA [] rfl
    refine vp_callSi (W.runS (As := [.int x1, .int m_places]) (rest := [.ref (d 0)]) ⟨hx, hb, hml, hown, hts⟩ (c_M_none hw) (cwS 2 hts (gS k_M_none kw_344abd76 kw_8e7adc0a kw_98028344) rfl rfl rfl (by decide +kernel) ⟨(Nat.le_of_ble_eq_true rfl), (Nat.le_of_ble_eq_true rfl)⟩) ⟨kP.blind, kP.of hK hPc hDc hZ hS hFc⟩ rfl rfl hl.1 rfl (lv_room (Nat.le_of_ble_eq_true rfl)) d_M_turn_17 ⟨(Nat.le_of_ble_eq_true rfl), (Nat.le_of_ble_eq_true rfl)⟩) (fun r_2 hw => ?_)
    refine lv_if_eq (tgt := 27) hx hb d_M_turn_20 (by decide) (fun c_3 => ?_) (fun c_3 => ?_)
    · have hw := hw.1 c_3
      refine lv_aload_n hx hb d_M_turn_27 rfl (lv_at hl 0 rfl) ?_
      have hPc := hP
      have hDc := hD
      have hFc := va_free (wc := mW d cI cZ m_thrownCode m_places m_front m_turns m_fetched m_listed m_planned m_wasExact m_shelves m_placeOf m_blockedShelf m_on m_counts m_doors m_list m_plan m_shelf m_trial) hD hS hA [0, 1, 2, 3, 4, 5, 6, 7, 8, 9] rfl
      refine vp_callSi (W.runV (As := []) (rest := [.ref (d 0)]) ⟨hx, hb, hml, hown, hts⟩ (c_M_anyDoor hw) (cwV 0 hts (gV k_M_anyDoor kw_e1054515 kw_802bee30 kw_08a6665f kw_98028344) rfl rfl rfl (by decide +kernel) ⟨(Nat.le_of_ble_eq_true rfl), (Nat.le_of_ble_eq_true rfl)⟩) ⟨kP.blind, va_recv hK hPc (ci := 2) (q0 := 0) rfl rfl, kP.of hK hPc hDc hZ hS hFc⟩ rfl rfl hl.1 rfl (lv_room (Nat.le_of_ble_eq_true rfl)) d_M_turn_28 ⟨(Nat.le_of_ble_eq_true rfl), (Nat.le_of_ble_eq_true rfl)⟩) (fun r_4 hw => ?_)
      refine lv_if_eq (tgt := 38) hx hb d_M_turn_31 (by decide) (fun c_5 => ?_) (fun c_5 => ?_)
      · have hw := hw.1 c_5
        refine lv_iconst (v := (0 : Int32)) hx hb d_M_turn_38 (by decide) ?_
        refine va_put (D := D) (ci := 2) (v := .int (0 : Int32)) (ty := .int) (C := R_M) (T := F_M) (N := 18) hx hb hts (iK iW_M) t_M t_M_ok n_M hown hK hP hD hS 0 rfl rfl 0 (by decide) (hts _ (kM kw_8fca7397)) (fun _ h9 => h9) rfl (by decide +kernel) rfl rfl (Nat.le_of_ble_eq_true rfl) d_M_turn_39 (fun H locs hP hD hS => ?_)
        have hP : va_P D classes (mW d cI cZ (0 : Int32) m_places m_front m_turns m_fetched m_listed m_planned m_wasExact m_shelves m_placeOf m_blockedShelf m_on m_counts m_doors m_list m_plan m_shelf m_trial) H := hP
        have hD : va_D A (mW d cI cZ (0 : Int32) m_places m_front m_turns m_fetched m_listed m_planned m_wasExact m_shelves m_placeOf m_blockedShelf m_on m_counts m_doors m_list m_plan m_shelf m_trial) := hD
        refine lv_aload_n hx hb d_M_turn_42 rfl (lv_at hl 0 rfl) ?_
        refine va_get (D := D) (ci := 2) (v := .int (0 : Int32)) (C := R_M) (T := F_M) (N := 18) hx hb hts (iK iW_M) hown hK hP 0 rfl rfl 0 (by decide) (hts _ (kM kw_8fca7397)) (fun _ h9 => h9) rfl d_M_turn_43 ?_
        refine lv_if_eq (tgt := 51) hx hb d_M_turn_46 (by decide) (fun c_6 => ?_) (fun c_6 => absurd c_6 (by decide))
        refine lv_aload_n hx hb d_M_turn_51 rfl (lv_at hl 0 rfl) ?_
        refine lv_aload_n hx hb d_M_turn_52 rfl (lv_at hl 0 rfl) ?_
        refine va_get (D := D) (ci := 2) (v := .int m_front) (C := R_M) (T := F_M) (N := 18) hx hb hts (iK iW_M) hown hK hP 0 rfl rfl 2 (by decide) (hts _ (kM kw_6549c401)) (fun _ h9 => h9) rfl d_M_turn_53 ?_
        refine lv_iload_n hx hb d_M_turn_56 rfl (lv_at hl 1 rfl) ?_
        have hPc := hP
        have hDc := hD
        have hFc := va_free (wc := mW d cI cZ (0 : Int32) m_places m_front m_turns m_fetched m_listed m_planned m_wasExact m_shelves m_placeOf m_blockedShelf m_on m_counts m_doors m_list m_plan m_shelf m_trial) hD hS hA [0, 1, 2, 3, 4, 5, 6, 7, 8, 9] rfl
        refine vp_callSi (W.runV (As := [.int m_front, .int x1]) (rest := []) ⟨hx, hb, hml, hown, hts⟩ (c_M_distance hw) (cwV 2 hts (gV k_M_distance kw_850ee39e kw_0c4e16f1 kw_70900a17 kw_98028344) rfl rfl rfl (by decide +kernel) ⟨(Nat.le_of_ble_eq_true rfl), (Nat.le_of_ble_eq_true rfl)⟩) ⟨kP.blind, va_recv hK hPc (ci := 2) (q0 := 0) rfl rfl, kP.of hK hPc hDc hZ hS hFc⟩ rfl rfl hl.1 rfl (lv_room (Nat.le_of_ble_eq_true rfl)) d_M_turn_57 ⟨(Nat.le_of_ble_eq_true rfl), (Nat.le_of_ble_eq_true rfl)⟩) (fun r_7 hw => ?_)
        refine lv_istore_n (lv' := [(2, .int r_7), (0, .ref (d 0)), (1, .int x1)]) hx hb d_M_turn_60 rfl hl (by decide) rfl (fun ls hl => ?_)
        refine lv_aload_n hx hb d_M_turn_61 rfl (lv_at hl 1 rfl) ?_
        refine lv_iload_n hx hb d_M_turn_62 rfl (lv_at hl 2 rfl) ?_
        refine va_put (D := D) (ci := 2) (v := .int x1) (ty := .int) (C := R_M) (T := F_M) (N := 18) hx hb hts (iK iW_M) t_M t_M_ok n_M hown hK hP hD hS 0 rfl rfl 2 (by decide) (hts _ (kM kw_6549c401)) (fun _ h9 => h9) rfl (by decide +kernel) rfl rfl (Nat.le_of_ble_eq_true rfl) d_M_turn_63 (fun H locs hP hD hS => ?_)
        have hP : va_P D classes (mW d cI cZ (0 : Int32) m_places x1 m_turns m_fetched m_listed m_planned m_wasExact m_shelves m_placeOf m_blockedShelf m_on m_counts m_doors m_list m_plan m_shelf m_trial) H := hP
        have hD : va_D A (mW d cI cZ (0 : Int32) m_places x1 m_turns m_fetched m_listed m_planned m_wasExact m_shelves m_placeOf m_blockedShelf m_on m_counts m_doors m_list m_plan m_shelf m_trial) := hD
        refine lv_aload_n hx hb d_M_turn_66 rfl (lv_at hl 1 rfl) ?_
        refine lv_dup hx hb d_M_turn_67 rfl ?_
        refine va_get (D := D) (ci := 2) (v := .int m_turns) (C := R_M) (T := F_M) (N := 18) hx hb hts (iK iW_M) hown hK hP 0 rfl rfl 8 (by decide) (hts _ (kM kw_eb9287c1)) (fun _ h9 => h9) rfl d_M_turn_68 ?_
        refine lv_iload_n hx hb d_M_turn_71 rfl (lv_at hl 0 rfl) ?_
        refine lv_iadd hx hb d_M_turn_72 ?_
        refine va_put (D := D) (ci := 2) (v := .int (m_turns + r_7)) (ty := .int) (C := R_M) (T := F_M) (N := 18) hx hb hts (iK iW_M) t_M t_M_ok n_M hown hK hP hD hS 0 rfl rfl 8 (by decide) (hts _ (kM kw_eb9287c1)) (fun _ h9 => h9) rfl (by decide +kernel) rfl rfl (Nat.le_of_ble_eq_true rfl) d_M_turn_73 (fun H locs hP hD hS => ?_)
        have hP : va_P D classes (mW d cI cZ (0 : Int32) m_places x1 (m_turns + r_7) m_fetched m_listed m_planned m_wasExact m_shelves m_placeOf m_blockedShelf m_on m_counts m_doors m_list m_plan m_shelf m_trial) H := hP
        have hD : va_D A (mW d cI cZ (0 : Int32) m_places x1 (m_turns + r_7) m_fetched m_listed m_planned m_wasExact m_shelves m_placeOf m_blockedShelf m_on m_counts m_doors m_list m_plan m_shelf m_trial) := hD
        refine lv_iload_n hx hb d_M_turn_76 rfl (lv_at hl 0 rfl) ?_
        exact W.iret (v := r_7) hx hb hr (fun t ht hW => ⟨⟨r_7, ((0 : Int32), x1, (m_turns + r_7)), rfl, hw, by rw [ht]; exact hP, va_K.moved hW.alike hK, hD⟩, hS.F ht⟩) hS.2.2 d_M_turn_77
      · have hw := hw.2 c_5
        refine lv_iconst (v := (3 : Int32)) hx hb d_M_turn_34 (by decide) ?_
        refine lv_goto (tgt := 39) hx hb d_M_turn_35 (by decide) ?_
        refine va_put (D := D) (ci := 2) (v := .int (3 : Int32)) (ty := .int) (C := R_M) (T := F_M) (N := 18) hx hb hts (iK iW_M) t_M t_M_ok n_M hown hK hP hD hS 0 rfl rfl 0 (by decide) (hts _ (kM kw_8fca7397)) (fun _ h9 => h9) rfl (by decide +kernel) rfl rfl (Nat.le_of_ble_eq_true rfl) d_M_turn_39 (fun H locs hP hD hS => ?_)
        have hP : va_P D classes (mW d cI cZ (3 : Int32) m_places m_front m_turns m_fetched m_listed m_planned m_wasExact m_shelves m_placeOf m_blockedShelf m_on m_counts m_doors m_list m_plan m_shelf m_trial) H := hP
        have hD : va_D A (mW d cI cZ (3 : Int32) m_places m_front m_turns m_fetched m_listed m_planned m_wasExact m_shelves m_placeOf m_blockedShelf m_on m_counts m_doors m_list m_plan m_shelf m_trial) := hD
        refine lv_aload_n hx hb d_M_turn_42 rfl (lv_at hl 0 rfl) ?_
        refine va_get (D := D) (ci := 2) (v := .int (3 : Int32)) (C := R_M) (T := F_M) (N := 18) hx hb hts (iK iW_M) hown hK hP 0 rfl rfl 0 (by decide) (hts _ (kM kw_8fca7397)) (fun _ h9 => h9) rfl d_M_turn_43 ?_
        refine lv_if_eq (tgt := 51) hx hb d_M_turn_46 (by decide) (fun c_8 => absurd c_8 (by decide)) (fun c_8 => ?_)
        refine lv_iconst (v := (0 : Int32)) hx hb d_M_turn_49 (by decide) ?_
        exact W.iret (v := (0 : Int32)) hx hb hr (fun t ht hW => ⟨⟨(0 : Int32), ((3 : Int32), m_front, m_turns), rfl, hw, by rw [ht]; exact hP, va_K.moved hW.alike hK, hD⟩, hS.F ht⟩) hS.2.2 d_M_turn_50
    · have hw := hw.2 c_3
      refine lv_iconst (v := (2 : Int32)) hx hb d_M_turn_23 (by decide) ?_
      refine lv_goto (tgt := 39) hx hb d_M_turn_24 (by decide) ?_
      refine va_put (D := D) (ci := 2) (v := .int (2 : Int32)) (ty := .int) (C := R_M) (T := F_M) (N := 18) hx hb hts (iK iW_M) t_M t_M_ok n_M hown hK hP hD hS 0 rfl rfl 0 (by decide) (hts _ (kM kw_8fca7397)) (fun _ h9 => h9) rfl (by decide +kernel) rfl rfl (Nat.le_of_ble_eq_true rfl) d_M_turn_39 (fun H locs hP hD hS => ?_)
      have hP : va_P D classes (mW d cI cZ (2 : Int32) m_places m_front m_turns m_fetched m_listed m_planned m_wasExact m_shelves m_placeOf m_blockedShelf m_on m_counts m_doors m_list m_plan m_shelf m_trial) H := hP
      have hD : va_D A (mW d cI cZ (2 : Int32) m_places m_front m_turns m_fetched m_listed m_planned m_wasExact m_shelves m_placeOf m_blockedShelf m_on m_counts m_doors m_list m_plan m_shelf m_trial) := hD
      refine lv_aload_n hx hb d_M_turn_42 rfl (lv_at hl 0 rfl) ?_
      refine va_get (D := D) (ci := 2) (v := .int (2 : Int32)) (C := R_M) (T := F_M) (N := 18) hx hb hts (iK iW_M) hown hK hP 0 rfl rfl 0 (by decide) (hts _ (kM kw_8fca7397)) (fun _ h9 => h9) rfl d_M_turn_43 ?_
      refine lv_if_eq (tgt := 51) hx hb d_M_turn_46 (by decide) (fun c_9 => absurd c_9 (by decide)) (fun c_9 => ?_)
      refine lv_iconst (v := (0 : Int32)) hx hb d_M_turn_49 (by decide) ?_
      exact W.iret (v := (0 : Int32)) hx hb hr (fun t ht hW => ⟨⟨(0 : Int32), ((2 : Int32), m_front, m_turns), rfl, hw, by rw [ht]; exact hP, va_K.moved hW.alike hK, hD⟩, hS.F ht⟩) hS.2.2 d_M_turn_50
  · have hw := hw.2 c_1
    refine lv_iconst (v := (1 : Int32)) hx hb d_M_turn_8 (by decide) ?_
    refine lv_goto (tgt := 39) hx hb d_M_turn_9 (by decide) ?_
    refine va_put (D := D) (ci := 2) (v := .int (1 : Int32)) (ty := .int) (C := R_M) (T := F_M) (N := 18) hx hb hts (iK iW_M) t_M t_M_ok n_M hown hK hP hD hS 0 rfl rfl 0 (by decide) (hts _ (kM kw_8fca7397)) (fun _ h9 => h9) rfl (by decide +kernel) rfl rfl (Nat.le_of_ble_eq_true rfl) d_M_turn_39 (fun H locs hP hD hS => ?_)
    have hP : va_P D classes (mW d cI cZ (1 : Int32) m_places m_front m_turns m_fetched m_listed m_planned m_wasExact m_shelves m_placeOf m_blockedShelf m_on m_counts m_doors m_list m_plan m_shelf m_trial) H := hP
    have hD : va_D A (mW d cI cZ (1 : Int32) m_places m_front m_turns m_fetched m_listed m_planned m_wasExact m_shelves m_placeOf m_blockedShelf m_on m_counts m_doors m_list m_plan m_shelf m_trial) := hD
    refine lv_aload_n hx hb d_M_turn_42 rfl (lv_at hl 0 rfl) ?_
    refine va_get (D := D) (ci := 2) (v := .int (1 : Int32)) (C := R_M) (T := F_M) (N := 18) hx hb hts (iK iW_M) hown hK hP 0 rfl rfl 0 (by decide) (hts _ (kM kw_8fca7397)) (fun _ h9 => h9) rfl d_M_turn_43 ?_
    refine lv_if_eq (tgt := 51) hx hb d_M_turn_46 (by decide) (fun c_10 => absurd c_10 (by decide)) (fun c_10 => ?_)
    refine lv_iconst (v := (0 : Int32)) hx hb d_M_turn_49 (by decide) ?_
    exact W.iret (v := (0 : Int32)) hx hb hr (fun t ht hW => ⟨⟨(0 : Int32), ((1 : Int32), m_front, m_turns), rfl, hw, by rw [ht]; exact hP, va_K.moved hW.alike hK, hD⟩, hS.F ht⟩) hS.2.2 d_M_turn_50
def p_M_isListed_L2_B (v1 : Int32) (m_listed : Int32) (m_list : Nat → Int32) (post : Int32 → Prop) (K_2 : Int32 → Prop) (rec_2 : Int32 → Prop) (x2_2 : Int32) : Prop := ((m_listed ≤ x2_2 → K_2 x2_2) ∧ (¬ m_listed ≤ x2_2 → (vp_in x2_2 8 ∧ ((¬ (m_list (x2_2).toNatClampNeg) = v1 → rec_2 (x2_2 + 1)) ∧ ((m_list (x2_2).toNatClampNeg) = v1 → post (1 : Int32))))))
def p_M_isListed_L2 (v1 : Int32) (m_listed : Int32) (m_list : Nat → Int32) (post : Int32 → Prop) (K_2 : Int32 → Prop) : Nat → Int32 → Prop
  | 0 => fun _ => False
  | n + 1 => p_M_isListed_L2_B v1 m_listed m_list post K_2 (p_M_isListed_L2 v1 m_listed m_list post K_2 n)
def p_M_isListed (x1 : Int32) (m_listed : Int32) (m_list : Nat → Int32) (post : Int32 → Prop) : Prop := (∃ n, p_M_isListed_L2 x1 m_listed m_list post (fun (k_8 : Int32) => post (0 : Int32)) n (0 : Int32))
abbrev rm_M_isListed : Room := { frames := 1, cells := 0, slots := 0, locals := 40 }
set_option maxHeartbeats 4000000 in
set_option maxRecDepth 100000 in
theorem c_M_isListed {l : Launch} {D : va_G} {sa : Nat → Nat} {cI cZ : ClassId} {sz : Nat} {d : Nat → Nat} {m_thrownCode : Int32} {m_places : Int32} {m_front : Int32} {m_turns : Int32} {m_fetched : Int32} {m_listed : Int32} {m_planned : Int32} {m_wasExact : Int32} {m_shelves : Int32} {m_placeOf : Nat → Int32} {m_blockedShelf : Nat → Int32} {m_on : Nat → Int32} {m_counts : Nat → Int32} {m_doors : Nat → Int32} {m_list : Nat → Int32} {m_plan : Nat → Int32} {m_shelf : Nat → Int32} {m_trial : Nat → Int32} {x1 : Int32} {post : Int32 → Prop} (hw : p_M_isListed x1 m_listed m_list post) : Met l y_M_isListed w_M_isListed rm_M_isListed (va_Pc [.ref (d 0), .int x1] (kP D sa [(cI, .int), (cZ, .boolean)] (mW d cI cZ m_thrownCode m_places m_front m_turns m_fetched m_listed m_planned m_wasExact m_shelves m_placeOf m_blockedShelf m_on m_counts m_doors m_list m_plan m_shelf m_trial) sz)) (vp_Si post) 0 0 (fun _ => False) := by
  refine Met.ofW (cc := b_M_isListed) (maxL := 3) (ret := (some .boolean)) (by decide) rfl ?_
  intro p e s m args below meth c s₁ B hml hv
  obtain ⟨rfl, hsz, hP, hK, hD0, hZ⟩ := hv
  have hx := B.exec
  have hb := B.bytes
  have hr := B.returns
  have hts := atoms_spec (ws := w_M_isListed) B.pre
  have hown : s.vm.findClass R_M = some m.cls := findClass_of_methodNamed B.named
  have hlocks := B.notSynchronized
  subst hsz
  have hD := hD0.self (sz := s.heap.size)
  generalize hAe : (va_A (mW d cI cZ m_thrownCode m_places m_front m_turns m_fetched m_listed m_planned m_wasExact m_shelves m_placeOf m_blockedShelf m_on m_counts m_doors m_list m_plan m_shelf m_trial) s.heap.size) = A at hD hZ
  have hA : ∀ q : Nat, s.heap.size ≤ q → A q := fun q h => by rw [← hAe]; exact Or.inr h
  have hS : va_S A s.heap s.heap [] := va_S.rf
  have hl := lv_entry ([.ref (d 0), .int x1]) (n := 3) (Nat.le_of_ble_eq_true rfl)
  rw [lg_entry_eq]
  generalize (lg_sl ([.ref (d 0), .int x1]) ++ List.replicate (3 - (lg_sl ([.ref (d 0), .int x1])).length) Slot.unset).toArray = ls at hl ⊢
  have hl : lv_has ls 3 [(0, .ref (d 0)), (1, .int x1)] := hl
  refine lv_iconst (v := (0 : Int32)) hx hb d_M_isListed_0 (by decide) ?_
  refine lv_istore_n (lv' := [(2, .int (0 : Int32)), (0, .ref (d 0)), (1, .int x1)]) hx hb d_M_isListed_1 rfl hl (by decide) rfl (fun ls hl => ?_)
  obtain ⟨K_2, hK_2⟩ : ∃ z : Int32 → Prop, z = (fun (k_8 : Int32) => post (0 : Int32)) := ⟨_, rfl⟩
  have hw : ∃ n, p_M_isListed_L2 x1 m_listed m_list post K_2 n (0 : Int32) := by rw [hK_2]; exact hw
  obtain ⟨n_2, hw⟩ := hw
  have key_2 : ∀ (n : Nat) (x2_4 : Int32) (ls : Array Slot), p_M_isListed_L2 x1 m_listed m_list post K_2 n x2_4 → lv_has ls 3 [(2, .int x2_4), (0, .ref (d 0)), (1, .int x1)] → W p l e (headSpec w_M_isListed rm_M_isListed).room s m ([.ref (d 0), .int x1] : List Value).toArray below meth c s.heap [] 0 0 (MQ below (vp_Si post) ([.ref (d 0), .int x1] : List Value).toArray s 0 0 (fun _ => False)) (F0 m 2 ls []) := by
    intro n
    induction n with
    | zero => intro x2_4 ls hw hl; exact hw.elim
    | succ n ih_2 =>
      intro x2_4 ls hw hl
      have hw : p_M_isListed_L2_B x1 m_listed m_list post K_2 (p_M_isListed_L2 x1 m_listed m_list post K_2 n) x2_4 := hw
      generalize p_M_isListed_L2 x1 m_listed m_list post K_2 n = rec_2 at hw ih_2
      refine lv_iload_n hx hb d_M_isListed_2 rfl (lv_at hl 0 rfl) ?_
      refine lv_aload_n hx hb d_M_isListed_3 rfl (lv_at hl 1 rfl) ?_
      refine va_get (D := D) (ci := 2) (v := .int m_listed) (C := R_M) (T := F_M) (N := 18) hx hb hts (iK iW_M) hown hK hP 0 rfl rfl 10 (by decide) (hts _ (kM kw_e21e5c24)) (fun _ h9 => h9) rfl d_M_isListed_4 ?_
      refine lv_icmp_ge (tgt := 28) hx hb d_M_isListed_7 (by decide) (fun c_5 => ?_) (fun c_5 => ?_)
      · have hw := hw.1 c_5
        rw [hK_2] at hw
        have hl : lv_has ls 3 [(2, .int x2_4), (0, .ref (d 0)), (1, .int x1)] := lv_sub hl [0, 1, 2] rfl
        refine lv_iconst (v := (0 : Int32)) hx hb d_M_isListed_28 (by decide) ?_
        exact W.zret (v := (0 : Int32)) (ty := .boolean) hx hb hr rfl (fun t ht _ => ⟨(0 : Int32), rfl, hw, ht⟩) (by simp) d_M_isListed_29
      · have hw := hw.2 c_5
        refine lv_aload_n hx hb d_M_isListed_10 rfl (lv_at hl 1 rfl) ?_
        refine va_get (D := D) (ci := 2) (v := .ref (d 6)) (C := R_M) (T := F_M) (N := 18) hx hb hts (iK iW_M) hown hK hP 0 rfl rfl 11 (by decide) (hts _ (kM kw_0bf6b78c)) (fun _ h9 => h9) rfl d_M_isListed_11 ?_
        refine lv_iload_n hx hb d_M_isListed_14 rfl (lv_at hl 0 rfl) ?_
        obtain ⟨h_6, hw⟩ := hw
        refine va_iald hx hb hK hP 6 0 rfl rfl h_6 d_M_isListed_15 ?_
        refine lv_iload_n hx hb d_M_isListed_16 rfl (lv_at hl 2 rfl) ?_
        refine lv_icmp_ne (tgt := 22) hx hb d_M_isListed_17 (by decide) (fun c_7 => ?_) (fun c_7 => ?_)
        · have hw := hw.1 c_7
          refine lv_iinc (v := (x2_4 + 1)) (lv' := [(2, .int (x2_4 + 1)), (0, .ref (d 0)), (1, .int x1)]) hx hb d_M_isListed_22 hl (k := 0) rfl rfl (by decide) rfl (fun ls hl => ?_)
          refine lv_goto (tgt := 2) hx hb d_M_isListed_25 (by decide) ?_
          exact ih_2 (x2_4 + 1) _ hw (lv_sub hl [0, 1, 2] rfl)
        · have hw := hw.2 c_7
          refine lv_iconst (v := (1 : Int32)) hx hb d_M_isListed_20 (by decide) ?_
          exact W.zret (v := (1 : Int32)) (ty := .boolean) hx hb hr rfl (fun t ht _ => ⟨(1 : Int32), rfl, hw, ht⟩) (by simp) d_M_isListed_21
  exact key_2 n_2 (0 : Int32) _ hw (lv_sub hl [0, 1, 2] rfl)
def p_M_want (x1 : Int32) (m_listed : Int32) (m_blockedShelf : Nat → Int32) (m_on : Nat → Int32) (m_list : Nat → Int32) (post : Int32 → Int32 → Int32 → (Nat → Int32) → Prop) : Prop := (p_M_none x1 (20 : Int32) (fun r_1 => ((r_1 = 0 → (vp_in x1 20 ∧ (((m_on (x1).toNatClampNeg) < 0 → post (0 : Int32) (2 : Int32) m_listed m_list) ∧ (¬ (m_on (x1).toNatClampNeg) < 0 → (p_M_isListed x1 m_listed m_list (fun r_7 => ((r_7 = 0 → (vp_in x1 20 ∧ (vp_in (m_on (x1).toNatClampNeg) 24 ∧ (((m_blockedShelf ((m_on (x1).toNatClampNeg)).toNatClampNeg) = 0 → ((¬ m_listed = (8 : Int32) → (vp_in m_listed 8 ∧ post (m_listed + (1 : Int32)) (0 : Int32) (m_listed + (1 : Int32)) (upd m_list (m_listed).toNatClampNeg x1))) ∧ (m_listed = (8 : Int32) → post (0 : Int32) (3 : Int32) m_listed m_list))) ∧ (¬ (m_blockedShelf ((m_on (x1).toNatClampNeg)).toNatClampNeg) = 0 → post (0 : Int32) (2 : Int32) m_listed m_list))))) ∧ (¬ r_7 = 0 → post (0 : Int32) (2 : Int32) m_listed m_list)))))))) ∧ (¬ r_1 = 0 → post (0 : Int32) (1 : Int32) m_listed m_list))))
abbrev rm_M_want : Room := { frames := 2, cells := 0, slots := 0, locals := 62 }
set_option maxHeartbeats 4000000 in
set_option maxRecDepth 100000 in
theorem c_M_want {l : Launch} {D : va_G} {sa : Nat → Nat} {cI cZ : ClassId} {sz : Nat} {d : Nat → Nat} {m_thrownCode : Int32} {m_places : Int32} {m_front : Int32} {m_turns : Int32} {m_fetched : Int32} {m_listed : Int32} {m_planned : Int32} {m_wasExact : Int32} {m_shelves : Int32} {m_placeOf : Nat → Int32} {m_blockedShelf : Nat → Int32} {m_on : Nat → Int32} {m_counts : Nat → Int32} {m_doors : Nat → Int32} {m_list : Nat → Int32} {m_plan : Nat → Int32} {m_shelf : Nat → Int32} {m_trial : Nat → Int32} {x1 : Int32} {post : Int32 → Int32 → Int32 → (Nat → Int32) → Prop} (hw : p_M_want x1 m_listed m_blockedShelf m_on m_list post) : Met l y_M_want w_M_want rm_M_want (va_Pc [.ref (d 0), .int x1] (kP D sa [(cI, .int), (cZ, .boolean)] (mW d cI cZ m_thrownCode m_places m_front m_turns m_fetched m_listed m_planned m_wasExact m_shelves m_placeOf m_blockedShelf m_on m_counts m_doors m_list m_plan m_shelf m_trial) sz)) (va_Qi (fun r (u : Int32 × Int32 × (Nat → Int32)) => post r u.1 u.2.1 u.2.2) (fun (u : Int32 × Int32 × (Nat → Int32)) t => va_P D classes (mW d cI cZ u.1 m_places m_front m_turns m_fetched u.2.1 m_planned m_wasExact m_shelves m_placeOf m_blockedShelf m_on m_counts m_doors u.2.2 m_plan m_shelf m_trial) t.heap ∧ va_K D classes [(cI, .int), (cZ, .boolean)] t ∧ va_D (va_A (mW d cI cZ m_thrownCode m_places m_front m_turns m_fetched m_listed m_planned m_wasExact m_shelves m_placeOf m_blockedShelf m_on m_counts m_doors m_list m_plan m_shelf m_trial) sz) (mW d cI cZ u.1 m_places m_front m_turns m_fetched u.2.1 m_planned m_wasExact m_shelves m_placeOf m_blockedShelf m_on m_counts m_doors u.2.2 m_plan m_shelf m_trial)) (va_A (mW d cI cZ m_thrownCode m_places m_front m_turns m_fetched m_listed m_planned m_wasExact m_shelves m_placeOf m_blockedShelf m_on m_counts m_doors m_list m_plan m_shelf m_trial) sz)) 0 0 (va_A (mW d cI cZ m_thrownCode m_places m_front m_turns m_fetched m_listed m_planned m_wasExact m_shelves m_placeOf m_blockedShelf m_on m_counts m_doors m_list m_plan m_shelf m_trial) sz) := by
  refine Met.ofW (cc := b_M_want) (maxL := 2) (ret := (some .int)) (by decide) rfl ?_
  intro p e s m args below meth c s₁ B hml hv
  obtain ⟨rfl, hsz, hP, hK, hD0, hZ⟩ := hv
  have hx := B.exec
  have hb := B.bytes
  have hr := B.returns
  have hts := atoms_spec (ws := w_M_want) B.pre
  have hown : s.vm.findClass R_M = some m.cls := findClass_of_methodNamed B.named
  have hlocks := B.notSynchronized
  subst hsz
  have hD := hD0.self (sz := s.heap.size)
  generalize hAe : (va_A (mW d cI cZ m_thrownCode m_places m_front m_turns m_fetched m_listed m_planned m_wasExact m_shelves m_placeOf m_blockedShelf m_on m_counts m_doors m_list m_plan m_shelf m_trial) s.heap.size) = A at hD hZ ⊢
  have hA : ∀ q : Nat, s.heap.size ≤ q → A q := fun q h => by rw [← hAe]; exact Or.inr h
  have hS : va_S A s.heap s.heap [] := va_S.rf
  have hl := lv_entry ([.ref (d 0), .int x1]) (n := 2) (Nat.le_of_ble_eq_true rfl)
  rw [lg_entry_eq]
  generalize (lg_sl ([.ref (d 0), .int x1]) ++ List.replicate (2 - (lg_sl ([.ref (d 0), .int x1])).length) Slot.unset).toArray = ls at hl ⊢
  have hl : lv_has ls 2 [(0, .ref (d 0)), (1, .int x1)] := hl
  refine lv_aload_n hx hb d_M_want_0 rfl (lv_at hl 0 rfl) ?_
  refine lv_iload_n hx hb d_M_want_1 rfl (lv_at hl 1 rfl) ?_
  refine lv_bipush (v := (20 : Int32)) hx hb d_M_want_2 (by decide) ?_
  have hPc := hP.sub (ws' := []) [] rfl
  have hDc := hD.sub (ws' := []) [] (by decide) rfl
  have hFc := va_free (wc := []) hD hS hA [] rfl
  refine vp_callSi (W.runS (As := [.int x1, .int (20 : Int32)]) (rest := [.ref (d 0)]) ⟨hx, hb, hml, hown, hts⟩ (c_M_none hw) (cwS 2 hts (gS k_M_none kw_344abd76 kw_8e7adc0a kw_98028344) rfl rfl rfl (by decide +kernel) ⟨(Nat.le_of_ble_eq_true rfl), (Nat.le_of_ble_eq_true rfl)⟩) ⟨kP.blind, kP.of hK hPc hDc hZ hS hFc⟩ rfl rfl hl.1 rfl (lv_room (Nat.le_of_ble_eq_true rfl)) d_M_want_4 ⟨(Nat.le_of_ble_eq_true rfl), (Nat.le_of_ble_eq_true rfl)⟩) (fun r_1 hw => ?_)
  refine lv_if_eq (tgt := 14) hx hb d_M_want_7 (by decide) (fun c_2 => ?_) (fun c_2 => ?_)
  · have hw := hw.1 c_2
    refine lv_iconst (v := (0 : Int32)) hx hb d_M_want_14 (by decide) ?_
    refine va_put (D := D) (ci := 2) (v := .int (0 : Int32)) (ty := .int) (C := R_M) (T := F_M) (N := 18) hx hb hts (iK iW_M) t_M t_M_ok n_M hown hK hP hD hS 0 rfl rfl 0 (by decide) (hts _ (kM kw_8fca7397)) (fun _ h9 => h9) rfl (by decide +kernel) rfl rfl (Nat.le_of_ble_eq_true rfl) d_M_want_15 (fun H locs hP hD hS => ?_)
    have hP : va_P D classes (mW d cI cZ (0 : Int32) m_places m_front m_turns m_fetched m_listed m_planned m_wasExact m_shelves m_placeOf m_blockedShelf m_on m_counts m_doors m_list m_plan m_shelf m_trial) H := hP
    have hD : va_D A (mW d cI cZ (0 : Int32) m_places m_front m_turns m_fetched m_listed m_planned m_wasExact m_shelves m_placeOf m_blockedShelf m_on m_counts m_doors m_list m_plan m_shelf m_trial) := hD
    refine lv_aload_n hx hb d_M_want_18 rfl (lv_at hl 0 rfl) ?_
    refine va_get (D := D) (ci := 2) (v := .int (0 : Int32)) (C := R_M) (T := F_M) (N := 18) hx hb hts (iK iW_M) hown hK hP 0 rfl rfl 0 (by decide) (hts _ (kM kw_8fca7397)) (fun _ h9 => h9) rfl d_M_want_19 ?_
    refine lv_if_ne (tgt := 82) hx hb d_M_want_22 (by decide) (fun c_3 => absurd c_3 (by decide)) (fun c_3 => ?_)
    refine lv_aload_n hx hb d_M_want_25 rfl (lv_at hl 0 rfl) ?_
    refine lv_aload_n hx hb d_M_want_26 rfl (lv_at hl 0 rfl) ?_
    refine va_get (D := D) (ci := 2) (v := .ref (d 3)) (C := R_M) (T := F_M) (N := 18) hx hb hts (iK iW_M) hown hK hP 0 rfl rfl 5 (by decide) (hts _ (kM kw_7ca6b28c)) (fun _ h9 => h9) rfl d_M_want_27 ?_
    refine lv_iload_n hx hb d_M_want_30 rfl (lv_at hl 1 rfl) ?_
    obtain ⟨h_4, hw⟩ := hw
    refine va_iald hx hb hK hP 3 0 rfl rfl h_4 d_M_want_31 ?_
    refine lv_if_lt (tgt := 43) hx hb d_M_want_32 (by decide) (fun c_5 => ?_) (fun c_5 => ?_)
    · have hw := hw.1 c_5
      refine lv_iconst (v := (2 : Int32)) hx hb d_M_want_43 (by decide) ?_
      refine lv_goto (tgt := 79) hx hb d_M_want_44 (by decide) ?_
      refine va_put (D := D) (ci := 2) (v := .int (2 : Int32)) (ty := .int) (C := R_M) (T := F_M) (N := 18) hx hb hts (iK iW_M) t_M t_M_ok n_M hown hK hP hD hS 0 rfl rfl 0 (by decide) (hts _ (kM kw_8fca7397)) (fun _ h9 => h9) rfl (by decide +kernel) rfl rfl (Nat.le_of_ble_eq_true rfl) d_M_want_79 (fun H locs hP hD hS => ?_)
      have hP : va_P D classes (mW d cI cZ (2 : Int32) m_places m_front m_turns m_fetched m_listed m_planned m_wasExact m_shelves m_placeOf m_blockedShelf m_on m_counts m_doors m_list m_plan m_shelf m_trial) H := hP
      have hD : va_D A (mW d cI cZ (2 : Int32) m_places m_front m_turns m_fetched m_listed m_planned m_wasExact m_shelves m_placeOf m_blockedShelf m_on m_counts m_doors m_list m_plan m_shelf m_trial) := hD
      refine lv_aload_n hx hb d_M_want_82 rfl (lv_at hl 0 rfl) ?_
      refine va_get (D := D) (ci := 2) (v := .int (2 : Int32)) (C := R_M) (T := F_M) (N := 18) hx hb hts (iK iW_M) hown hK hP 0 rfl rfl 0 (by decide) (hts _ (kM kw_8fca7397)) (fun _ h9 => h9) rfl d_M_want_83 ?_
      refine lv_if_eq (tgt := 91) hx hb d_M_want_86 (by decide) (fun c_6 => absurd c_6 (by decide)) (fun c_6 => ?_)
      refine lv_iconst (v := (0 : Int32)) hx hb d_M_want_89 (by decide) ?_
      exact W.iret (v := (0 : Int32)) hx hb hr (fun t ht hW => ⟨⟨(0 : Int32), ((2 : Int32), m_listed, m_list), rfl, hw, by rw [ht]; exact hP, va_K.moved hW.alike hK, hD⟩, hS.F ht⟩) hS.2.2 d_M_want_90
    · have hw := hw.2 c_5
      refine lv_aload_n hx hb d_M_want_35 rfl (lv_at hl 0 rfl) ?_
      refine lv_iload_n hx hb d_M_want_36 rfl (lv_at hl 1 rfl) ?_
      have hPc := hP
      have hDc := hD
      have hFc := va_free (wc := mW d cI cZ (0 : Int32) m_places m_front m_turns m_fetched m_listed m_planned m_wasExact m_shelves m_placeOf m_blockedShelf m_on m_counts m_doors m_list m_plan m_shelf m_trial) hD hS hA [0, 1, 2, 3, 4, 5, 6, 7, 8, 9] rfl
      refine vp_callSi (W.runV (As := [.int x1]) (rest := [.ref (d 0)]) ⟨hx, hb, hml, hown, hts⟩ (c_M_isListed hw) (cwV 1 hts (gV k_M_isListed kw_a1676723 kw_4d75b3d7 kw_b1c4c71d kw_98028344) rfl rfl rfl (by decide +kernel) ⟨(Nat.le_of_ble_eq_true rfl), (Nat.le_of_ble_eq_true rfl)⟩) ⟨kP.blind, va_recv hK hPc (ci := 2) (q0 := 0) rfl rfl, kP.of hK hPc hDc hZ hS hFc⟩ rfl rfl hl.1 rfl (lv_room (Nat.le_of_ble_eq_true rfl)) d_M_want_37 ⟨(Nat.le_of_ble_eq_true rfl), (Nat.le_of_ble_eq_true rfl)⟩) (fun r_7 hw => ?_)
      refine lv_if_eq (tgt := 47) hx hb d_M_want_40 (by decide) (fun c_8 => ?_) (fun c_8 => ?_)
      · have hw := hw.1 c_8
        refine lv_aload_n hx hb d_M_want_47 rfl (lv_at hl 0 rfl) ?_
        refine va_get (D := D) (ci := 2) (v := .ref (d 2)) (C := R_M) (T := F_M) (N := 18) hx hb hts (iK iW_M) hown hK hP 0 rfl rfl 4 (by decide) (hts _ (kM kw_f6907c18)) (fun _ h9 => h9) rfl d_M_want_48 ?_
        refine lv_aload_n hx hb d_M_want_51 rfl (lv_at hl 0 rfl) ?_
        refine va_get (D := D) (ci := 2) (v := .ref (d 3)) (C := R_M) (T := F_M) (N := 18) hx hb hts (iK iW_M) hown hK hP 0 rfl rfl 5 (by decide) (hts _ (kM kw_7ca6b28c)) (fun _ h9 => h9) rfl d_M_want_52 ?_
        refine lv_iload_n hx hb d_M_want_55 rfl (lv_at hl 1 rfl) ?_
        obtain ⟨h_9, hw⟩ := hw
        refine va_iald hx hb hK hP 3 0 rfl rfl h_9 d_M_want_56 ?_
        obtain ⟨h_10, hw⟩ := hw
        refine va_zald hx hb hK hP 2 1 rfl rfl h_10 d_M_want_57 ?_
        refine lv_if_eq (tgt := 65) hx hb d_M_want_58 (by decide) (fun c_11 => ?_) (fun c_11 => ?_)
        · have hw := hw.1 c_11
          refine lv_aload_n hx hb d_M_want_65 rfl (lv_at hl 0 rfl) ?_
          refine va_get (D := D) (ci := 2) (v := .int m_listed) (C := R_M) (T := F_M) (N := 18) hx hb hts (iK iW_M) hown hK hP 0 rfl rfl 10 (by decide) (hts _ (kM kw_e21e5c24)) (fun _ h9 => h9) rfl d_M_want_66 ?_
          refine lv_bipush (v := (8 : Int32)) hx hb d_M_want_69 (by decide) ?_
          refine lv_icmp_ne (tgt := 78) hx hb d_M_want_71 (by decide) (fun c_12 => ?_) (fun c_12 => ?_)
          · have hw := hw.1 c_12
            refine lv_iconst (v := (0 : Int32)) hx hb d_M_want_78 (by decide) ?_
            refine va_put (D := D) (ci := 2) (v := .int (0 : Int32)) (ty := .int) (C := R_M) (T := F_M) (N := 18) hx hb hts (iK iW_M) t_M t_M_ok n_M hown hK hP hD hS 0 rfl rfl 0 (by decide) (hts _ (kM kw_8fca7397)) (fun _ h9 => h9) rfl (by decide +kernel) rfl rfl (Nat.le_of_ble_eq_true rfl) d_M_want_79 (fun H locs hP hD hS => ?_)
            have hP : va_P D classes (mW d cI cZ (0 : Int32) m_places m_front m_turns m_fetched m_listed m_planned m_wasExact m_shelves m_placeOf m_blockedShelf m_on m_counts m_doors m_list m_plan m_shelf m_trial) H := hP
            have hD : va_D A (mW d cI cZ (0 : Int32) m_places m_front m_turns m_fetched m_listed m_planned m_wasExact m_shelves m_placeOf m_blockedShelf m_on m_counts m_doors m_list m_plan m_shelf m_trial) := hD
            refine lv_aload_n hx hb d_M_want_82 rfl (lv_at hl 0 rfl) ?_
            refine va_get (D := D) (ci := 2) (v := .int (0 : Int32)) (C := R_M) (T := F_M) (N := 18) hx hb hts (iK iW_M) hown hK hP 0 rfl rfl 0 (by decide) (hts _ (kM kw_8fca7397)) (fun _ h9 => h9) rfl d_M_want_83 ?_
            refine lv_if_eq (tgt := 91) hx hb d_M_want_86 (by decide) (fun c_13 => ?_) (fun c_13 => absurd c_13 (by decide))
            refine lv_aload_n hx hb d_M_want_91 rfl (lv_at hl 0 rfl) ?_
            refine va_get (D := D) (ci := 2) (v := .ref (d 6)) (C := R_M) (T := F_M) (N := 18) hx hb hts (iK iW_M) hown hK hP 0 rfl rfl 11 (by decide) (hts _ (kM kw_0bf6b78c)) (fun _ h9 => h9) rfl d_M_want_92 ?_
            refine lv_aload_n hx hb d_M_want_95 rfl (lv_at hl 0 rfl) ?_
            refine va_get (D := D) (ci := 2) (v := .int m_listed) (C := R_M) (T := F_M) (N := 18) hx hb hts (iK iW_M) hown hK hP 0 rfl rfl 10 (by decide) (hts _ (kM kw_e21e5c24)) (fun _ h9 => h9) rfl d_M_want_96 ?_
            refine lv_iload_n hx hb d_M_want_99 rfl (lv_at hl 1 rfl) ?_
            obtain ⟨h_14, hw⟩ := hw
            refine va_iast hx hb hK hP hD hS 6 0 rfl rfl h_14 d_M_want_100 (fun H locs hP hD hS => ?_)
            have hP : va_P D classes (mW d cI cZ (0 : Int32) m_places m_front m_turns m_fetched m_listed m_planned m_wasExact m_shelves m_placeOf m_blockedShelf m_on m_counts m_doors (upd m_list (m_listed).toNatClampNeg x1) m_plan m_shelf m_trial) H := hP
            have hD : va_D A (mW d cI cZ (0 : Int32) m_places m_front m_turns m_fetched m_listed m_planned m_wasExact m_shelves m_placeOf m_blockedShelf m_on m_counts m_doors (upd m_list (m_listed).toNatClampNeg x1) m_plan m_shelf m_trial) := hD
            refine lv_aload_n hx hb d_M_want_101 rfl (lv_at hl 0 rfl) ?_
            refine lv_dup hx hb d_M_want_102 rfl ?_
            refine va_get (D := D) (ci := 2) (v := .int m_listed) (C := R_M) (T := F_M) (N := 18) hx hb hts (iK iW_M) hown hK hP 0 rfl rfl 10 (by decide) (hts _ (kM kw_e21e5c24)) (fun _ h9 => h9) rfl d_M_want_103 ?_
            refine lv_iconst (v := (1 : Int32)) hx hb d_M_want_106 (by decide) ?_
            refine lv_iadd hx hb d_M_want_107 ?_
            refine va_put (D := D) (ci := 2) (v := .int (m_listed + (1 : Int32))) (ty := .int) (C := R_M) (T := F_M) (N := 18) hx hb hts (iK iW_M) t_M t_M_ok n_M hown hK hP hD hS 0 rfl rfl 10 (by decide) (hts _ (kM kw_e21e5c24)) (fun _ h9 => h9) rfl (by decide +kernel) rfl rfl (Nat.le_of_ble_eq_true rfl) d_M_want_108 (fun H locs hP hD hS => ?_)
            have hP : va_P D classes (mW d cI cZ (0 : Int32) m_places m_front m_turns m_fetched (m_listed + (1 : Int32)) m_planned m_wasExact m_shelves m_placeOf m_blockedShelf m_on m_counts m_doors (upd m_list (m_listed).toNatClampNeg x1) m_plan m_shelf m_trial) H := hP
            have hD : va_D A (mW d cI cZ (0 : Int32) m_places m_front m_turns m_fetched (m_listed + (1 : Int32)) m_planned m_wasExact m_shelves m_placeOf m_blockedShelf m_on m_counts m_doors (upd m_list (m_listed).toNatClampNeg x1) m_plan m_shelf m_trial) := hD
            refine lv_aload_n hx hb d_M_want_111 rfl (lv_at hl 0 rfl) ?_
            refine va_get (D := D) (ci := 2) (v := .int (m_listed + (1 : Int32))) (C := R_M) (T := F_M) (N := 18) hx hb hts (iK iW_M) hown hK hP 0 rfl rfl 10 (by decide) (hts _ (kM kw_e21e5c24)) (fun _ h9 => h9) rfl d_M_want_112 ?_
            exact W.iret (v := (m_listed + (1 : Int32))) hx hb hr (fun t ht hW => ⟨⟨(m_listed + (1 : Int32)), ((0 : Int32), (m_listed + (1 : Int32)), (upd m_list (m_listed).toNatClampNeg x1)), rfl, hw, by rw [ht]; exact hP, va_K.moved hW.alike hK, hD⟩, hS.F ht⟩) hS.2.2 d_M_want_115
          · have hw := hw.2 c_12
            refine lv_iconst (v := (3 : Int32)) hx hb d_M_want_74 (by decide) ?_
            refine lv_goto (tgt := 79) hx hb d_M_want_75 (by decide) ?_
            refine va_put (D := D) (ci := 2) (v := .int (3 : Int32)) (ty := .int) (C := R_M) (T := F_M) (N := 18) hx hb hts (iK iW_M) t_M t_M_ok n_M hown hK hP hD hS 0 rfl rfl 0 (by decide) (hts _ (kM kw_8fca7397)) (fun _ h9 => h9) rfl (by decide +kernel) rfl rfl (Nat.le_of_ble_eq_true rfl) d_M_want_79 (fun H locs hP hD hS => ?_)
            have hP : va_P D classes (mW d cI cZ (3 : Int32) m_places m_front m_turns m_fetched m_listed m_planned m_wasExact m_shelves m_placeOf m_blockedShelf m_on m_counts m_doors m_list m_plan m_shelf m_trial) H := hP
            have hD : va_D A (mW d cI cZ (3 : Int32) m_places m_front m_turns m_fetched m_listed m_planned m_wasExact m_shelves m_placeOf m_blockedShelf m_on m_counts m_doors m_list m_plan m_shelf m_trial) := hD
            refine lv_aload_n hx hb d_M_want_82 rfl (lv_at hl 0 rfl) ?_
            refine va_get (D := D) (ci := 2) (v := .int (3 : Int32)) (C := R_M) (T := F_M) (N := 18) hx hb hts (iK iW_M) hown hK hP 0 rfl rfl 0 (by decide) (hts _ (kM kw_8fca7397)) (fun _ h9 => h9) rfl d_M_want_83 ?_
            refine lv_if_eq (tgt := 91) hx hb d_M_want_86 (by decide) (fun c_15 => absurd c_15 (by decide)) (fun c_15 => ?_)
            refine lv_iconst (v := (0 : Int32)) hx hb d_M_want_89 (by decide) ?_
            exact W.iret (v := (0 : Int32)) hx hb hr (fun t ht hW => ⟨⟨(0 : Int32), ((3 : Int32), m_listed, m_list), rfl, hw, by rw [ht]; exact hP, va_K.moved hW.alike hK, hD⟩, hS.F ht⟩) hS.2.2 d_M_want_90
        · have hw := hw.2 c_11
          refine lv_iconst (v := (2 : Int32)) hx hb d_M_want_61 (by decide) ?_
          refine lv_goto (tgt := 79) hx hb d_M_want_62 (by decide) ?_
          refine va_put (D := D) (ci := 2) (v := .int (2 : Int32)) (ty := .int) (C := R_M) (T := F_M) (N := 18) hx hb hts (iK iW_M) t_M t_M_ok n_M hown hK hP hD hS 0 rfl rfl 0 (by decide) (hts _ (kM kw_8fca7397)) (fun _ h9 => h9) rfl (by decide +kernel) rfl rfl (Nat.le_of_ble_eq_true rfl) d_M_want_79 (fun H locs hP hD hS => ?_)
          have hP : va_P D classes (mW d cI cZ (2 : Int32) m_places m_front m_turns m_fetched m_listed m_planned m_wasExact m_shelves m_placeOf m_blockedShelf m_on m_counts m_doors m_list m_plan m_shelf m_trial) H := hP
          have hD : va_D A (mW d cI cZ (2 : Int32) m_places m_front m_turns m_fetched m_listed m_planned m_wasExact m_shelves m_placeOf m_blockedShelf m_on m_counts m_doors m_list m_plan m_shelf m_trial) := hD
          refine lv_aload_n hx hb d_M_want_82 rfl (lv_at hl 0 rfl) ?_
          refine va_get (D := D) (ci := 2) (v := .int (2 : Int32)) (C := R_M) (T := F_M) (N := 18) hx hb hts (iK iW_M) hown hK hP 0 rfl rfl 0 (by decide) (hts _ (kM kw_8fca7397)) (fun _ h9 => h9) rfl d_M_want_83 ?_
          refine lv_if_eq (tgt := 91) hx hb d_M_want_86 (by decide) (fun c_16 => absurd c_16 (by decide)) (fun c_16 => ?_)
          refine lv_iconst (v := (0 : Int32)) hx hb d_M_want_89 (by decide) ?_
          exact W.iret (v := (0 : Int32)) hx hb hr (fun t ht hW => ⟨⟨(0 : Int32), ((2 : Int32), m_listed, m_list), rfl, hw, by rw [ht]; exact hP, va_K.moved hW.alike hK, hD⟩, hS.F ht⟩) hS.2.2 d_M_want_90
      · have hw := hw.2 c_8
        refine lv_iconst (v := (2 : Int32)) hx hb d_M_want_43 (by decide) ?_
        refine lv_goto (tgt := 79) hx hb d_M_want_44 (by decide) ?_
        refine va_put (D := D) (ci := 2) (v := .int (2 : Int32)) (ty := .int) (C := R_M) (T := F_M) (N := 18) hx hb hts (iK iW_M) t_M t_M_ok n_M hown hK hP hD hS 0 rfl rfl 0 (by decide) (hts _ (kM kw_8fca7397)) (fun _ h9 => h9) rfl (by decide +kernel) rfl rfl (Nat.le_of_ble_eq_true rfl) d_M_want_79 (fun H locs hP hD hS => ?_)
        have hP : va_P D classes (mW d cI cZ (2 : Int32) m_places m_front m_turns m_fetched m_listed m_planned m_wasExact m_shelves m_placeOf m_blockedShelf m_on m_counts m_doors m_list m_plan m_shelf m_trial) H := hP
        have hD : va_D A (mW d cI cZ (2 : Int32) m_places m_front m_turns m_fetched m_listed m_planned m_wasExact m_shelves m_placeOf m_blockedShelf m_on m_counts m_doors m_list m_plan m_shelf m_trial) := hD
        refine lv_aload_n hx hb d_M_want_82 rfl (lv_at hl 0 rfl) ?_
        refine va_get (D := D) (ci := 2) (v := .int (2 : Int32)) (C := R_M) (T := F_M) (N := 18) hx hb hts (iK iW_M) hown hK hP 0 rfl rfl 0 (by decide) (hts _ (kM kw_8fca7397)) (fun _ h9 => h9) rfl d_M_want_83 ?_
        refine lv_if_eq (tgt := 91) hx hb d_M_want_86 (by decide) (fun c_17 => absurd c_17 (by decide)) (fun c_17 => ?_)
        refine lv_iconst (v := (0 : Int32)) hx hb d_M_want_89 (by decide) ?_
        exact W.iret (v := (0 : Int32)) hx hb hr (fun t ht hW => ⟨⟨(0 : Int32), ((2 : Int32), m_listed, m_list), rfl, hw, by rw [ht]; exact hP, va_K.moved hW.alike hK, hD⟩, hS.F ht⟩) hS.2.2 d_M_want_90
  · have hw := hw.2 c_2
    refine lv_iconst (v := (1 : Int32)) hx hb d_M_want_10 (by decide) ?_
    refine lv_goto (tgt := 15) hx hb d_M_want_11 (by decide) ?_
    refine va_put (D := D) (ci := 2) (v := .int (1 : Int32)) (ty := .int) (C := R_M) (T := F_M) (N := 18) hx hb hts (iK iW_M) t_M t_M_ok n_M hown hK hP hD hS 0 rfl rfl 0 (by decide) (hts _ (kM kw_8fca7397)) (fun _ h9 => h9) rfl (by decide +kernel) rfl rfl (Nat.le_of_ble_eq_true rfl) d_M_want_15 (fun H locs hP hD hS => ?_)
    have hP : va_P D classes (mW d cI cZ (1 : Int32) m_places m_front m_turns m_fetched m_listed m_planned m_wasExact m_shelves m_placeOf m_blockedShelf m_on m_counts m_doors m_list m_plan m_shelf m_trial) H := hP
    have hD : va_D A (mW d cI cZ (1 : Int32) m_places m_front m_turns m_fetched m_listed m_planned m_wasExact m_shelves m_placeOf m_blockedShelf m_on m_counts m_doors m_list m_plan m_shelf m_trial) := hD
    refine lv_aload_n hx hb d_M_want_18 rfl (lv_at hl 0 rfl) ?_
    refine va_get (D := D) (ci := 2) (v := .int (1 : Int32)) (C := R_M) (T := F_M) (N := 18) hx hb hts (iK iW_M) hown hK hP 0 rfl rfl 0 (by decide) (hts _ (kM kw_8fca7397)) (fun _ h9 => h9) rfl d_M_want_19 ?_
    refine lv_if_ne (tgt := 82) hx hb d_M_want_22 (by decide) (fun c_18 => ?_) (fun c_18 => absurd c_18 (by decide))
    refine lv_aload_n hx hb d_M_want_82 rfl (lv_at hl 0 rfl) ?_
    refine va_get (D := D) (ci := 2) (v := .int (1 : Int32)) (C := R_M) (T := F_M) (N := 18) hx hb hts (iK iW_M) hown hK hP 0 rfl rfl 0 (by decide) (hts _ (kM kw_8fca7397)) (fun _ h9 => h9) rfl d_M_want_83 ?_
    refine lv_if_eq (tgt := 91) hx hb d_M_want_86 (by decide) (fun c_19 => absurd c_19 (by decide)) (fun c_19 => ?_)
    refine lv_iconst (v := (0 : Int32)) hx hb d_M_want_89 (by decide) ?_
    exact W.iret (v := (0 : Int32)) hx hb hr (fun t ht hW => ⟨⟨(0 : Int32), ((1 : Int32), m_listed, m_list), rfl, hw, by rw [ht]; exact hP, va_K.moved hW.alike hK, hD⟩, hS.F ht⟩) hS.2.2 d_M_want_90
def p_M_plan_L151_B (m_shelves : Int32) (m_trial : Nat → Int32) (K_151 : Int32 → (Nat → Int32) → Prop) (rec_151 : Int32 → (Nat → Int32) → Prop) (x2_151 : Int32) (m_plan_151 : Nat → Int32) : Prop := ((m_shelves ≤ x2_151 → K_151 x2_151 m_plan_151) ∧ (¬ m_shelves ≤ x2_151 → (vp_in x2_151 8 ∧ (vp_in x2_151 8 ∧ rec_151 (x2_151 + 1) (upd m_plan_151 (x2_151).toNatClampNeg (m_trial (x2_151).toNatClampNeg))))))
def p_M_plan_L151 (m_shelves : Int32) (m_trial : Nat → Int32) (K_151 : Int32 → (Nat → Int32) → Prop) : Nat → Int32 → (Nat → Int32) → Prop
  | 0 => fun _ _ => False
  | n + 1 => p_M_plan_L151_B m_shelves m_trial K_151 (p_M_plan_L151 m_shelves m_trial K_151 n)
def p_M_plan_L73_B (m_shelves : Int32) (K_73 : Int32 → Int32 → Prop) (rec_73 : Int32 → Int32 → Prop) (x2_73 : Int32) (x3_73 : Int32) : Prop := ((m_shelves < x3_73 → K_73 x2_73 x3_73) ∧ (¬ m_shelves < x3_73 → rec_73 (x2_73 * x3_73) (x3_73 + 1)))
def p_M_plan_L73 (m_shelves : Int32) (K_73 : Int32 → Int32 → Prop) : Nat → Int32 → Int32 → Prop
  | 0 => fun _ _ => False
  | n + 1 => p_M_plan_L73_B m_shelves K_73 (p_M_plan_L73 m_shelves K_73 n)
def p_M_plan_L100_B (v2 : Int32) (m_places : Int32) (m_front : Int32) (m_shelves : Int32) (m_placeOf : Nat → Int32) (m_shelf : Nat → Int32) (K_100 : Int32 → Int32 → Int32 → (Nat → Int32) → Prop) (rec_100 : Int32 → Int32 → Int32 → (Nat → Int32) → Prop) (x3_100 : Int32) (x4_100 : Int32) (x5_100 : Int32) (m_trial_100 : Nat → Int32) : Prop := ((v2 ≤ x5_100 → K_100 x3_100 x4_100 x5_100 m_trial_100) ∧ (¬ v2 ≤ x5_100 → (p_M_theOrder x5_100 m_shelves m_shelf m_trial_100 (fun m_trial_30 => (p_M_turnsOf m_places m_front m_shelves m_placeOf m_trial_30 (fun r_31 => ((x4_100 ≤ r_31 → rec_100 x3_100 x4_100 (x5_100 + 1) m_trial_30) ∧ (¬ x4_100 ≤ r_31 → (p_M_turnsOf m_places m_front m_shelves m_placeOf m_trial_30 (fun r_33 => rec_100 x5_100 r_33 (x5_100 + 1) m_trial_30))))))))))
def p_M_plan_L100 (v2 : Int32) (m_places : Int32) (m_front : Int32) (m_shelves : Int32) (m_placeOf : Nat → Int32) (m_shelf : Nat → Int32) (K_100 : Int32 → Int32 → Int32 → (Nat → Int32) → Prop) : Nat → Int32 → Int32 → Int32 → (Nat → Int32) → Prop
  | 0 => fun _ _ _ _ => False
  | n + 1 => p_M_plan_L100_B v2 m_places m_front m_shelves m_placeOf m_shelf K_100 (p_M_plan_L100 v2 m_places m_front m_shelves m_placeOf m_shelf K_100 n)
def p_M_plan (x1 : Int32) (m_places : Int32) (m_front : Int32) (m_listed : Int32) (m_planned : Int32) (m_wasExact : Int32) (m_shelves : Int32) (m_placeOf : Nat → Int32) (m_blockedShelf : Nat → Int32) (m_on : Nat → Int32) (m_list : Nat → Int32) (m_plan : Nat → Int32) (m_shelf : Nat → Int32) (m_trial : Nat → Int32) (post : Int32 → Int32 → Int32 → Int32 → Int32 → (Nat → Int32) → (Nat → Int32) → (Nat → Int32) → Prop) : Prop := (p_M_none x1 (7 : Int32) (fun r_1 => ((r_1 = 0 → (p_M_findShelves m_places m_listed m_blockedShelf m_on m_list m_shelf (fun r_3 m_shelves_4 m_shelf_5 => ((¬ r_3 = 0 → ((x1 < m_shelves_4 → (p_M_byRule m_places m_front m_shelves_4 m_placeOf m_shelf_5 m_trial (fun m_trial_10 => (∃ n, p_M_plan_L151 m_shelves_4 m_trial_10 (fun (k_19 : Int32) (k_20 : Nat → Int32) => (p_M_turnsOf m_places m_front m_shelves_4 m_placeOf m_trial_10 (fun r_21 => post r_21 (0 : Int32) m_shelves_4 (0 : Int32) m_shelves_4 k_20 m_shelf_5 m_trial_10))) n (0 : Int32) m_plan)))) ∧ (¬ x1 < m_shelves_4 → (∃ n, p_M_plan_L73 m_shelves_4 (fun (k_27 : Int32) (k_28 : Int32) => (∃ n, p_M_plan_L100 k_27 m_places m_front m_shelves_4 m_placeOf m_shelf_5 (fun (k_43 : Int32) (k_44 : Int32) (k_45 : Int32) (k_46 : Nat → Int32) => (p_M_theOrder k_43 m_shelves_4 m_shelf_5 k_46 (fun m_trial_47 => (∃ n, p_M_plan_L151 m_shelves_4 m_trial_47 (fun (k_53 : Int32) (k_54 : Nat → Int32) => (p_M_turnsOf m_places m_front m_shelves_4 m_placeOf m_trial_47 (fun r_55 => post r_55 (0 : Int32) m_shelves_4 (1 : Int32) m_shelves_4 k_54 m_shelf_5 m_trial_47))) n (0 : Int32) m_plan)))) n (0 : Int32) (1000000 : Int32) (0 : Int32) m_trial)) n (1 : Int32) (2 : Int32))))) ∧ (r_3 = 0 → post (0 : Int32) (2 : Int32) m_planned m_wasExact m_shelves_4 m_plan m_shelf_5 m_trial))))) ∧ (¬ r_1 = 0 → post (0 : Int32) (1 : Int32) m_planned m_wasExact m_shelves m_plan m_shelf m_trial))))
abbrev rm_M_plan : Room := { frames := 3, cells := 0, slots := 0, locals := 89 }
set_option maxHeartbeats 4000000 in
set_option maxRecDepth 100000 in
theorem c_M_plan {l : Launch} {D : va_G} {sa : Nat → Nat} {cI cZ : ClassId} {sz : Nat} {d : Nat → Nat} {m_thrownCode : Int32} {m_places : Int32} {m_front : Int32} {m_turns : Int32} {m_fetched : Int32} {m_listed : Int32} {m_planned : Int32} {m_wasExact : Int32} {m_shelves : Int32} {m_placeOf : Nat → Int32} {m_blockedShelf : Nat → Int32} {m_on : Nat → Int32} {m_counts : Nat → Int32} {m_doors : Nat → Int32} {m_list : Nat → Int32} {m_plan : Nat → Int32} {m_shelf : Nat → Int32} {m_trial : Nat → Int32} {x1 : Int32} {post : Int32 → Int32 → Int32 → Int32 → Int32 → (Nat → Int32) → (Nat → Int32) → (Nat → Int32) → Prop} (hw : p_M_plan x1 m_places m_front m_listed m_planned m_wasExact m_shelves m_placeOf m_blockedShelf m_on m_list m_plan m_shelf m_trial post) : Met l y_M_plan w_M_plan rm_M_plan (va_Pc [.ref (d 0), .int x1] (kP D sa [(cI, .int), (cZ, .boolean)] (mW d cI cZ m_thrownCode m_places m_front m_turns m_fetched m_listed m_planned m_wasExact m_shelves m_placeOf m_blockedShelf m_on m_counts m_doors m_list m_plan m_shelf m_trial) sz)) (va_Qi (fun r (u : Int32 × Int32 × Int32 × Int32 × (Nat → Int32) × (Nat → Int32) × (Nat → Int32)) => post r u.1 u.2.1 u.2.2.1 u.2.2.2.1 u.2.2.2.2.1 u.2.2.2.2.2.1 u.2.2.2.2.2.2) (fun (u : Int32 × Int32 × Int32 × Int32 × (Nat → Int32) × (Nat → Int32) × (Nat → Int32)) t => va_P D classes (mW d cI cZ u.1 m_places m_front m_turns m_fetched m_listed u.2.1 u.2.2.1 u.2.2.2.1 m_placeOf m_blockedShelf m_on m_counts m_doors m_list u.2.2.2.2.1 u.2.2.2.2.2.1 u.2.2.2.2.2.2) t.heap ∧ va_K D classes [(cI, .int), (cZ, .boolean)] t ∧ va_D (va_A (mW d cI cZ m_thrownCode m_places m_front m_turns m_fetched m_listed m_planned m_wasExact m_shelves m_placeOf m_blockedShelf m_on m_counts m_doors m_list m_plan m_shelf m_trial) sz) (mW d cI cZ u.1 m_places m_front m_turns m_fetched m_listed u.2.1 u.2.2.1 u.2.2.2.1 m_placeOf m_blockedShelf m_on m_counts m_doors m_list u.2.2.2.2.1 u.2.2.2.2.2.1 u.2.2.2.2.2.2)) (va_A (mW d cI cZ m_thrownCode m_places m_front m_turns m_fetched m_listed m_planned m_wasExact m_shelves m_placeOf m_blockedShelf m_on m_counts m_doors m_list m_plan m_shelf m_trial) sz)) 0 0 (va_A (mW d cI cZ m_thrownCode m_places m_front m_turns m_fetched m_listed m_planned m_wasExact m_shelves m_placeOf m_blockedShelf m_on m_counts m_doors m_list m_plan m_shelf m_trial) sz) := by
  refine Met.ofW (cc := b_M_plan) (maxL := 6) (ret := (some .int)) (by decide) rfl ?_
  intro p e s m args below meth c s₁ B hml hv
  obtain ⟨rfl, hsz, hP, hK, hD0, hZ⟩ := hv
  have hx := B.exec
  have hb := B.bytes
  have hr := B.returns
  have hts := atoms_spec (ws := w_M_plan) B.pre
  have hown : s.vm.findClass R_M = some m.cls := findClass_of_methodNamed B.named
  have hlocks := B.notSynchronized
  subst hsz
  have hD := hD0.self (sz := s.heap.size)
  generalize hAe : (va_A (mW d cI cZ m_thrownCode m_places m_front m_turns m_fetched m_listed m_planned m_wasExact m_shelves m_placeOf m_blockedShelf m_on m_counts m_doors m_list m_plan m_shelf m_trial) s.heap.size) = A at hD hZ ⊢
  have hA : ∀ q : Nat, s.heap.size ≤ q → A q := fun q h => by rw [← hAe]; exact Or.inr h
  have hS : va_S A s.heap s.heap [] := va_S.rf
  have hl := lv_entry ([.ref (d 0), .int x1]) (n := 6) (Nat.le_of_ble_eq_true rfl)
  rw [lg_entry_eq]
  generalize (lg_sl ([.ref (d 0), .int x1]) ++ List.replicate (6 - (lg_sl ([.ref (d 0), .int x1])).length) Slot.unset).toArray = ls at hl ⊢
  have hl : lv_has ls 6 [(0, .ref (d 0)), (1, .int x1)] := hl
  refine lv_aload_n hx hb d_M_plan_0 rfl (lv_at hl 0 rfl) ?_
  refine lv_iload_n hx hb d_M_plan_1 rfl (lv_at hl 1 rfl) ?_
  refine lv_bipush (v := (7 : Int32)) hx hb d_M_plan_2 (by decide) ?_
  have hPc := hP.sub (ws' := []) [] rfl
  have hDc := hD.sub (ws' := []) [] (by decide) rfl
  have hFc := va_free (wc := []) hD hS hA [] rfl
  refine vp_callSi (W.runS (As := [.int x1, .int (7 : Int32)]) (rest := [.ref (d 0)]) ⟨hx, hb, hml, hown, hts⟩ (c_M_none hw) (cwS 2 hts (gS k_M_none kw_344abd76 kw_8e7adc0a kw_98028344) rfl rfl rfl (by decide +kernel) ⟨(Nat.le_of_ble_eq_true rfl), (Nat.le_of_ble_eq_true rfl)⟩) ⟨kP.blind, kP.of hK hPc hDc hZ hS hFc⟩ rfl rfl hl.1 rfl (lv_room (Nat.le_of_ble_eq_true rfl)) d_M_plan_4 ⟨(Nat.le_of_ble_eq_true rfl), (Nat.le_of_ble_eq_true rfl)⟩) (fun r_1 hw => ?_)
  refine lv_if_eq (tgt := 14) hx hb d_M_plan_7 (by decide) (fun c_2 => ?_) (fun c_2 => ?_)
  · have hw := hw.1 c_2
    refine lv_aload_n hx hb d_M_plan_14 rfl (lv_at hl 0 rfl) ?_
    have hPc := hP
    have hDc := hD
    have hFc := va_free (wc := mW d cI cZ m_thrownCode m_places m_front m_turns m_fetched m_listed m_planned m_wasExact m_shelves m_placeOf m_blockedShelf m_on m_counts m_doors m_list m_plan m_shelf m_trial) hD hS hA [0, 1, 2, 3, 4, 5, 6, 7, 8, 9] rfl
    refine va_calli (va_runV (As := []) (rest := [.ref (d 0)]) ⟨hx, hb, hml, hown, hts⟩ (c_M_findShelves hw) (cwV 0 hts (gV k_M_findShelves kw_25f10960 kw_c9cb4311 kw_cf90987c kw_98028344) rfl rfl rfl (by decide +kernel) ⟨(Nat.le_of_ble_eq_true rfl), (Nat.le_of_ble_eq_true rfl)⟩) ⟨kP.blind, va_recv hK hPc (ci := 2) (q0 := 0) rfl rfl, kP.of hK hPc hDc hZ hS hFc⟩ rfl rfl hl.1 rfl (lv_room (Nat.le_of_ble_eq_true rfl)) d_M_plan_15 ⟨(Nat.le_of_ble_eq_true rfl), (Nat.le_of_ble_eq_true rfl)⟩) hS (fun q _ h => hFc q h) hFc (fun r_3 u t H1 locs ht hvm hw hB hz1 hk1 hS => ?_)
    obtain ⟨m_shelves_4, m_shelf_5⟩ := u
    obtain ⟨hP1, hK1, hD1⟩ := hB
    try dsimp only at hw hP1 hD1
    rw [ht] at hP1
    have hK1 := va_K.moved hvm.symm hK1
    obtain ⟨hP, hD⟩ := va_join (wr := []) (w1 := mW d cI cZ m_thrownCode m_places m_front m_turns m_fetched m_listed m_planned m_wasExact m_shelves_4 m_placeOf m_blockedShelf m_on m_counts m_doors m_list m_plan m_shelf_5 m_trial) hP hD [0, 1, 2, 3, 4, 5, 6, 7, 8, 9] [] rfl rfl (by decide) (by decide) hk1 hFc hP1 hD1
    generalize H1 = H at hP hS ⊢
    have hP : va_P D classes (mW d cI cZ m_thrownCode m_places m_front m_turns m_fetched m_listed m_planned m_wasExact m_shelves_4 m_placeOf m_blockedShelf m_on m_counts m_doors m_list m_plan m_shelf_5 m_trial) H := hP
    have hD : va_D A (mW d cI cZ m_thrownCode m_places m_front m_turns m_fetched m_listed m_planned m_wasExact m_shelves_4 m_placeOf m_blockedShelf m_on m_counts m_doors m_list m_plan m_shelf_5 m_trial) := hD
    refine lv_if_ne (tgt := 25) hx hb d_M_plan_18 (by decide) (fun c_6 => ?_) (fun c_6 => ?_)
    · have hw := hw.1 c_6
      refine lv_iconst (v := (0 : Int32)) hx hb d_M_plan_25 (by decide) ?_
      refine va_put (D := D) (ci := 2) (v := .int (0 : Int32)) (ty := .int) (C := R_M) (T := F_M) (N := 18) hx hb hts (iK iW_M) t_M t_M_ok n_M hown hK hP hD hS 0 rfl rfl 0 (by decide) (hts _ (kM kw_8fca7397)) (fun _ h9 => h9) rfl (by decide +kernel) rfl rfl (Nat.le_of_ble_eq_true rfl) d_M_plan_26 (fun H locs hP hD hS => ?_)
      have hP : va_P D classes (mW d cI cZ (0 : Int32) m_places m_front m_turns m_fetched m_listed m_planned m_wasExact m_shelves_4 m_placeOf m_blockedShelf m_on m_counts m_doors m_list m_plan m_shelf_5 m_trial) H := hP
      have hD : va_D A (mW d cI cZ (0 : Int32) m_places m_front m_turns m_fetched m_listed m_planned m_wasExact m_shelves_4 m_placeOf m_blockedShelf m_on m_counts m_doors m_list m_plan m_shelf_5 m_trial) := hD
      refine lv_aload_n hx hb d_M_plan_29 rfl (lv_at hl 0 rfl) ?_
      refine va_get (D := D) (ci := 2) (v := .int (0 : Int32)) (C := R_M) (T := F_M) (N := 18) hx hb hts (iK iW_M) hown hK hP 0 rfl rfl 0 (by decide) (hts _ (kM kw_8fca7397)) (fun _ h9 => h9) rfl d_M_plan_30 ?_
      refine lv_if_eq (tgt := 38) hx hb d_M_plan_33 (by decide) (fun c_7 => ?_) (fun c_7 => absurd c_7 (by decide))
      refine lv_aload_n hx hb d_M_plan_38 rfl (lv_at hl 0 rfl) ?_
      refine lv_aload_n hx hb d_M_plan_39 rfl (lv_at hl 0 rfl) ?_
      refine va_get (D := D) (ci := 2) (v := .int m_shelves_4) (C := R_M) (T := F_M) (N := 18) hx hb hts (iK iW_M) hown hK hP 0 rfl rfl 15 (by decide) (hts _ (kM kw_545b2532)) (fun _ h9 => h9) rfl d_M_plan_40 ?_
      refine lv_iload_n hx hb d_M_plan_43 rfl (lv_at hl 1 rfl) ?_
      refine lv_icmp_gt (tgt := 51) hx hb d_M_plan_44 (by decide) (fun c_8 => ?_) (fun c_8 => ?_)
      · have hw := hw.1 c_8
        refine lv_iconst (v := (0 : Int32)) hx hb d_M_plan_51 (by decide) ?_
        refine va_put (D := D) (ci := 2) (v := .int (0 : Int32)) (ty := .boolean) (C := R_M) (T := F_M) (N := 18) hx hb hts (iK iW_M) t_M t_M_ok n_M hown hK hP hD hS 0 rfl rfl 14 (by decide) (hts _ (kM kw_685c8329)) (fun _ h9 => h9) rfl (by decide +kernel) rfl rfl (Nat.le_of_ble_eq_true rfl) d_M_plan_52 (fun H locs hP hD hS => ?_)
        have hP : va_P D classes (mW d cI cZ (0 : Int32) m_places m_front m_turns m_fetched m_listed m_planned (0 : Int32) m_shelves_4 m_placeOf m_blockedShelf m_on m_counts m_doors m_list m_plan m_shelf_5 m_trial) H := hP
        have hD : va_D A (mW d cI cZ (0 : Int32) m_places m_front m_turns m_fetched m_listed m_planned (0 : Int32) m_shelves_4 m_placeOf m_blockedShelf m_on m_counts m_doors m_list m_plan m_shelf_5 m_trial) := hD
        refine lv_aload_n hx hb d_M_plan_55 rfl (lv_at hl 0 rfl) ?_
        refine va_get (D := D) (ci := 2) (v := .int (0 : Int32)) (C := R_M) (T := F_M) (N := 18) hx hb hts (iK iW_M) hown hK hP 0 rfl rfl 14 (by decide) (hts _ (kM kw_685c8329)) (fun _ h9 => h9) rfl d_M_plan_56 ?_
        refine lv_if_ne (tgt := 69) hx hb d_M_plan_59 (by decide) (fun c_9 => absurd c_9 (by decide)) (fun c_9 => ?_)
        refine lv_aload_n hx hb d_M_plan_62 rfl (lv_at hl 0 rfl) ?_
        have hPc := hP
        have hDc := hD
        have hFc := va_free (wc := mW d cI cZ (0 : Int32) m_places m_front m_turns m_fetched m_listed m_planned (0 : Int32) m_shelves_4 m_placeOf m_blockedShelf m_on m_counts m_doors m_list m_plan m_shelf_5 m_trial) hD hS hA [0, 1, 2, 3, 4, 5, 6, 7, 8, 9] rfl
        refine va_callv (va_runV (As := []) (rest := []) ⟨hx, hb, hml, hown, hts⟩ (c_M_byRule hw) (cwV 0 hts (gV k_M_byRule kw_826bfe44 kw_87e38f6a kw_b58c9fe1 kw_98028344) rfl rfl rfl (by decide +kernel) ⟨(Nat.le_of_ble_eq_true rfl), (Nat.le_of_ble_eq_true rfl)⟩) ⟨kP.blind, va_recv hK hPc (ci := 2) (q0 := 0) rfl rfl, kP.of hK hPc hDc hZ hS hFc⟩ rfl rfl hl.1 rfl (lv_room (Nat.le_of_ble_eq_true rfl)) d_M_plan_63 ⟨(Nat.le_of_ble_eq_true rfl), (Nat.le_of_ble_eq_true rfl)⟩) hS (fun q _ h => hFc q h) hFc (fun u t H1 locs ht hvm hw hB hz1 hk1 hS => ?_)
        obtain ⟨m_trial_10, rfl⟩ : ∃ z, z = u := ⟨_, rfl⟩
        obtain ⟨hP1, hK1, hD1⟩ := hB
        try dsimp only at hw hP1 hD1
        rw [ht] at hP1
        have hK1 := va_K.moved hvm.symm hK1
        obtain ⟨hP, hD⟩ := va_join (wr := []) (w1 := mW d cI cZ (0 : Int32) m_places m_front m_turns m_fetched m_listed m_planned (0 : Int32) m_shelves_4 m_placeOf m_blockedShelf m_on m_counts m_doors m_list m_plan m_shelf_5 m_trial_10) hP hD [0, 1, 2, 3, 4, 5, 6, 7, 8, 9] [] rfl rfl (by decide) (by decide) hk1 hFc hP1 hD1
        generalize H1 = H at hP hS ⊢
        have hP : va_P D classes (mW d cI cZ (0 : Int32) m_places m_front m_turns m_fetched m_listed m_planned (0 : Int32) m_shelves_4 m_placeOf m_blockedShelf m_on m_counts m_doors m_list m_plan m_shelf_5 m_trial_10) H := hP
        have hD : va_D A (mW d cI cZ (0 : Int32) m_places m_front m_turns m_fetched m_listed m_planned (0 : Int32) m_shelves_4 m_placeOf m_blockedShelf m_on m_counts m_doors m_list m_plan m_shelf_5 m_trial_10) := hD
        refine lv_goto (tgt := 141) hx hb d_M_plan_66 (by decide) ?_
        refine lv_aload_n hx hb d_M_plan_141 rfl (lv_at hl 0 rfl) ?_
        refine lv_aload_n hx hb d_M_plan_142 rfl (lv_at hl 0 rfl) ?_
        refine va_get (D := D) (ci := 2) (v := .int m_shelves_4) (C := R_M) (T := F_M) (N := 18) hx hb hts (iK iW_M) hown hK hP 0 rfl rfl 15 (by decide) (hts _ (kM kw_545b2532)) (fun _ h9 => h9) rfl d_M_plan_143 ?_
        refine va_put (D := D) (ci := 2) (v := .int m_shelves_4) (ty := .int) (C := R_M) (T := F_M) (N := 18) hx hb hts (iK iW_M) t_M t_M_ok n_M hown hK hP hD hS 0 rfl rfl 12 (by decide) (hts _ (kM kw_29a007b6)) (fun _ h9 => h9) rfl (by decide +kernel) rfl rfl (Nat.le_of_ble_eq_true rfl) d_M_plan_146 (fun H locs hP hD hS => ?_)
        have hP : va_P D classes (mW d cI cZ (0 : Int32) m_places m_front m_turns m_fetched m_listed m_shelves_4 (0 : Int32) m_shelves_4 m_placeOf m_blockedShelf m_on m_counts m_doors m_list m_plan m_shelf_5 m_trial_10) H := hP
        have hD : va_D A (mW d cI cZ (0 : Int32) m_places m_front m_turns m_fetched m_listed m_shelves_4 (0 : Int32) m_shelves_4 m_placeOf m_blockedShelf m_on m_counts m_doors m_list m_plan m_shelf_5 m_trial_10) := hD
        refine lv_iconst (v := (0 : Int32)) hx hb d_M_plan_149 (by decide) ?_
        refine lv_istore_n (lv' := [(2, .int (0 : Int32)), (0, .ref (d 0)), (1, .int x1)]) hx hb d_M_plan_150 rfl hl (by decide) rfl (fun ls hl => ?_)
        obtain ⟨K_151, hK_151⟩ : ∃ z : Int32 → (Nat → Int32) → Prop, z = (fun (k_19 : Int32) (k_20 : Nat → Int32) => (p_M_turnsOf m_places m_front m_shelves_4 m_placeOf m_trial_10 (fun r_21 => post r_21 (0 : Int32) m_shelves_4 (0 : Int32) m_shelves_4 k_20 m_shelf_5 m_trial_10))) := ⟨_, rfl⟩
        have hw : ∃ n, p_M_plan_L151 m_shelves_4 m_trial_10 K_151 n (0 : Int32) m_plan := by rw [hK_151]; exact hw
        obtain ⟨n_151, hw⟩ := hw
        have key_151 : ∀ (n : Nat) (x2_14 : Int32) (m_plan_15 : Nat → Int32) (H : Heap) (locs : List Loc) (ls : Array Slot), p_M_plan_L151 m_shelves_4 m_trial_10 K_151 n x2_14 m_plan_15 → va_P D classes (mW d cI cZ ((0 : Int32)) m_places m_front m_turns m_fetched m_listed m_shelves_4 ((0 : Int32)) m_shelves_4 m_placeOf m_blockedShelf m_on m_counts m_doors m_list m_plan_15 m_shelf_5 m_trial_10) H → va_D A (mW d cI cZ ((0 : Int32)) m_places m_front m_turns m_fetched m_listed m_shelves_4 ((0 : Int32)) m_shelves_4 m_placeOf m_blockedShelf m_on m_counts m_doors m_list m_plan_15 m_shelf_5 m_trial_10) → va_S A s.heap H locs → lv_has ls 6 [(2, .int x2_14), (0, .ref (d 0)), (1, .int x1)] → W p l e (headSpec w_M_plan rm_M_plan).room s m ([.ref (d 0), .int x1] : List Value).toArray below meth c H locs 0 0 (MQ below (va_Qi (fun r (u : Int32 × Int32 × Int32 × Int32 × (Nat → Int32) × (Nat → Int32) × (Nat → Int32)) => post r u.1 u.2.1 u.2.2.1 u.2.2.2.1 u.2.2.2.2.1 u.2.2.2.2.2.1 u.2.2.2.2.2.2) (fun (u : Int32 × Int32 × Int32 × Int32 × (Nat → Int32) × (Nat → Int32) × (Nat → Int32)) t => va_P D classes (mW d cI cZ u.1 m_places m_front m_turns m_fetched m_listed u.2.1 u.2.2.1 u.2.2.2.1 m_placeOf m_blockedShelf m_on m_counts m_doors m_list u.2.2.2.2.1 u.2.2.2.2.2.1 u.2.2.2.2.2.2) t.heap ∧ va_K D classes [(cI, .int), (cZ, .boolean)] t ∧ va_D A (mW d cI cZ u.1 m_places m_front m_turns m_fetched m_listed u.2.1 u.2.2.1 u.2.2.2.1 m_placeOf m_blockedShelf m_on m_counts m_doors m_list u.2.2.2.2.1 u.2.2.2.2.2.1 u.2.2.2.2.2.2)) A) ([.ref (d 0), .int x1] : List Value).toArray s 0 0 A) (F0 m 151 ls []) := by
          intro n
          induction n with
          | zero => intro x2_14 m_plan_15 H locs ls hw hP hD hS hl; exact hw.elim
          | succ n ih_151 =>
            intro x2_14 m_plan_15 H locs ls hw hP hD hS hl
            have hw : p_M_plan_L151_B m_shelves_4 m_trial_10 K_151 (p_M_plan_L151 m_shelves_4 m_trial_10 K_151 n) x2_14 m_plan_15 := hw
            generalize p_M_plan_L151 m_shelves_4 m_trial_10 K_151 n = rec_151 at hw ih_151
            refine lv_iload_n hx hb d_M_plan_151 rfl (lv_at hl 0 rfl) ?_
            refine lv_aload_n hx hb d_M_plan_152 rfl (lv_at hl 1 rfl) ?_
            refine va_get (D := D) (ci := 2) (v := .int m_shelves_4) (C := R_M) (T := F_M) (N := 18) hx hb hts (iK iW_M) hown hK hP 0 rfl rfl 15 (by decide) (hts _ (kM kw_545b2532)) (fun _ h9 => h9) rfl d_M_plan_153 ?_
            refine lv_icmp_ge (tgt := 177) hx hb d_M_plan_156 (by decide) (fun c_16 => ?_) (fun c_16 => ?_)
            · have hw := hw.1 c_16
              rw [hK_151] at hw
              have hl : lv_has ls 6 [(2, .int x2_14), (0, .ref (d 0)), (1, .int x1)] := lv_sub hl [0, 1, 2] rfl
              refine lv_aload_n hx hb d_M_plan_177 rfl (lv_at hl 1 rfl) ?_
              have hPc := hP
              have hDc := hD
              have hFc := va_free (wc := mW d cI cZ (0 : Int32) m_places m_front m_turns m_fetched m_listed m_shelves_4 (0 : Int32) m_shelves_4 m_placeOf m_blockedShelf m_on m_counts m_doors m_list m_plan_15 m_shelf_5 m_trial_10) hD hS hA [0, 1, 2, 3, 4, 5, 6, 7, 8, 9] rfl
              refine vp_callSi (W.runV (As := []) (rest := []) ⟨hx, hb, hml, hown, hts⟩ (c_M_turnsOf hw) (cwV 0 hts (gV k_M_turnsOf kw_f892f1c9 kw_f130ee31 kw_9db763cb kw_98028344) rfl rfl rfl (by decide +kernel) ⟨(Nat.le_of_ble_eq_true rfl), (Nat.le_of_ble_eq_true rfl)⟩) ⟨kP.blind, va_recv hK hPc (ci := 2) (q0 := 0) rfl rfl, kP.of hK hPc hDc hZ hS hFc⟩ rfl rfl hl.1 rfl (lv_room (Nat.le_of_ble_eq_true rfl)) d_M_plan_178 ⟨(Nat.le_of_ble_eq_true rfl), (Nat.le_of_ble_eq_true rfl)⟩) (fun r_21 hw => ?_)
              exact W.iret (v := r_21) hx hb hr (fun t ht hW => ⟨⟨r_21, ((0 : Int32), m_shelves_4, (0 : Int32), m_shelves_4, m_plan_15, m_shelf_5, m_trial_10), rfl, hw, by rw [ht]; exact hP, va_K.moved hW.alike hK, hD⟩, hS.F ht⟩) hS.2.2 d_M_plan_181
            · have hw := hw.2 c_16
              refine lv_aload_n hx hb d_M_plan_159 rfl (lv_at hl 1 rfl) ?_
              refine va_get (D := D) (ci := 2) (v := .ref (d 7)) (C := R_M) (T := F_M) (N := 18) hx hb hts (iK iW_M) hown hK hP 0 rfl rfl 13 (by decide) (hts _ (kM kw_f176d92d)) (fun _ h9 => h9) rfl d_M_plan_160 ?_
              refine lv_iload_n hx hb d_M_plan_163 rfl (lv_at hl 0 rfl) ?_
              refine lv_aload_n hx hb d_M_plan_164 rfl (lv_at hl 1 rfl) ?_
              refine va_get (D := D) (ci := 2) (v := .ref (d 9)) (C := R_M) (T := F_M) (N := 18) hx hb hts (iK iW_M) hown hK hP 0 rfl rfl 17 (by decide) (hts _ (kM kw_b638f234)) (fun _ h9 => h9) rfl d_M_plan_165 ?_
              refine lv_iload_n hx hb d_M_plan_168 rfl (lv_at hl 0 rfl) ?_
              obtain ⟨h_17, hw⟩ := hw
              refine va_iald hx hb hK hP 9 0 rfl rfl h_17 d_M_plan_169 ?_
              obtain ⟨h_18, hw⟩ := hw
              refine va_iast hx hb hK hP hD hS 7 0 rfl rfl h_18 d_M_plan_170 (fun H locs hP hD hS => ?_)
              have hP : va_P D classes (mW d cI cZ ((0 : Int32)) m_places m_front m_turns m_fetched m_listed m_shelves_4 ((0 : Int32)) m_shelves_4 m_placeOf m_blockedShelf m_on m_counts m_doors m_list (upd m_plan_15 (x2_14).toNatClampNeg (m_trial_10 (x2_14).toNatClampNeg)) m_shelf_5 m_trial_10) H := hP
              have hD : va_D A (mW d cI cZ ((0 : Int32)) m_places m_front m_turns m_fetched m_listed m_shelves_4 ((0 : Int32)) m_shelves_4 m_placeOf m_blockedShelf m_on m_counts m_doors m_list (upd m_plan_15 (x2_14).toNatClampNeg (m_trial_10 (x2_14).toNatClampNeg)) m_shelf_5 m_trial_10) := hD
              refine lv_iinc (v := (x2_14 + 1)) (lv' := [(2, .int (x2_14 + 1)), (0, .ref (d 0)), (1, .int x1)]) hx hb d_M_plan_171 hl (k := 0) rfl rfl (by decide) rfl (fun ls hl => ?_)
              refine lv_goto (tgt := 151) hx hb d_M_plan_174 (by decide) ?_
              exact ih_151 (x2_14 + 1) (upd m_plan_15 (x2_14).toNatClampNeg (m_trial_10 (x2_14).toNatClampNeg)) _ _ _ hw hP hD hS (lv_sub hl [0, 1, 2] rfl)
        exact key_151 n_151 (0 : Int32) m_plan _ _ _ hw hP hD hS (lv_sub hl [0, 1, 2] rfl)
      · have hw := hw.2 c_8
        refine lv_iconst (v := (1 : Int32)) hx hb d_M_plan_47 (by decide) ?_
        refine lv_goto (tgt := 52) hx hb d_M_plan_48 (by decide) ?_
        refine va_put (D := D) (ci := 2) (v := .int (1 : Int32)) (ty := .boolean) (C := R_M) (T := F_M) (N := 18) hx hb hts (iK iW_M) t_M t_M_ok n_M hown hK hP hD hS 0 rfl rfl 14 (by decide) (hts _ (kM kw_685c8329)) (fun _ h9 => h9) rfl (by decide +kernel) rfl rfl (Nat.le_of_ble_eq_true rfl) d_M_plan_52 (fun H locs hP hD hS => ?_)
        have hP : va_P D classes (mW d cI cZ (0 : Int32) m_places m_front m_turns m_fetched m_listed m_planned (1 : Int32) m_shelves_4 m_placeOf m_blockedShelf m_on m_counts m_doors m_list m_plan m_shelf_5 m_trial) H := hP
        have hD : va_D A (mW d cI cZ (0 : Int32) m_places m_front m_turns m_fetched m_listed m_planned (1 : Int32) m_shelves_4 m_placeOf m_blockedShelf m_on m_counts m_doors m_list m_plan m_shelf_5 m_trial) := hD
        refine lv_aload_n hx hb d_M_plan_55 rfl (lv_at hl 0 rfl) ?_
        refine va_get (D := D) (ci := 2) (v := .int (1 : Int32)) (C := R_M) (T := F_M) (N := 18) hx hb hts (iK iW_M) hown hK hP 0 rfl rfl 14 (by decide) (hts _ (kM kw_685c8329)) (fun _ h9 => h9) rfl d_M_plan_56 ?_
        refine lv_if_ne (tgt := 69) hx hb d_M_plan_59 (by decide) (fun c_22 => ?_) (fun c_22 => absurd c_22 (by decide))
        refine lv_iconst (v := (1 : Int32)) hx hb d_M_plan_69 (by decide) ?_
        refine lv_istore_n (lv' := [(2, .int (1 : Int32)), (0, .ref (d 0)), (1, .int x1)]) hx hb d_M_plan_70 rfl hl (by decide) rfl (fun ls hl => ?_)
        refine lv_iconst (v := (2 : Int32)) hx hb d_M_plan_71 (by decide) ?_
        refine lv_istore_n (lv' := [(3, .int (2 : Int32)), (2, .int (1 : Int32)), (0, .ref (d 0)), (1, .int x1)]) hx hb d_M_plan_72 rfl hl (by decide) rfl (fun ls hl => ?_)
        obtain ⟨K_73, hK_73⟩ : ∃ z : Int32 → Int32 → Prop, z = (fun (k_27 : Int32) (k_28 : Int32) => (∃ n, p_M_plan_L100 k_27 m_places m_front m_shelves_4 m_placeOf m_shelf_5 (fun (k_43 : Int32) (k_44 : Int32) (k_45 : Int32) (k_46 : Nat → Int32) => (p_M_theOrder k_43 m_shelves_4 m_shelf_5 k_46 (fun m_trial_47 => (∃ n, p_M_plan_L151 m_shelves_4 m_trial_47 (fun (k_53 : Int32) (k_54 : Nat → Int32) => (p_M_turnsOf m_places m_front m_shelves_4 m_placeOf m_trial_47 (fun r_55 => post r_55 (0 : Int32) m_shelves_4 (1 : Int32) m_shelves_4 k_54 m_shelf_5 m_trial_47))) n (0 : Int32) m_plan)))) n (0 : Int32) (1000000 : Int32) (0 : Int32) m_trial)) := ⟨_, rfl⟩
        have hw : ∃ n, p_M_plan_L73 m_shelves_4 K_73 n (1 : Int32) (2 : Int32) := by rw [hK_73]; exact hw
        obtain ⟨n_73, hw⟩ := hw
        have key_73 : ∀ (n : Nat) (x2_25 : Int32) (x3_24 : Int32) (ls : Array Slot), p_M_plan_L73 m_shelves_4 K_73 n x2_25 x3_24 → lv_has ls 6 [(3, .int x3_24), (2, .int x2_25), (0, .ref (d 0)), (1, .int x1)] → W p l e (headSpec w_M_plan rm_M_plan).room s m ([.ref (d 0), .int x1] : List Value).toArray below meth c H locs 0 0 (MQ below (va_Qi (fun r (u : Int32 × Int32 × Int32 × Int32 × (Nat → Int32) × (Nat → Int32) × (Nat → Int32)) => post r u.1 u.2.1 u.2.2.1 u.2.2.2.1 u.2.2.2.2.1 u.2.2.2.2.2.1 u.2.2.2.2.2.2) (fun (u : Int32 × Int32 × Int32 × Int32 × (Nat → Int32) × (Nat → Int32) × (Nat → Int32)) t => va_P D classes (mW d cI cZ u.1 m_places m_front m_turns m_fetched m_listed u.2.1 u.2.2.1 u.2.2.2.1 m_placeOf m_blockedShelf m_on m_counts m_doors m_list u.2.2.2.2.1 u.2.2.2.2.2.1 u.2.2.2.2.2.2) t.heap ∧ va_K D classes [(cI, .int), (cZ, .boolean)] t ∧ va_D A (mW d cI cZ u.1 m_places m_front m_turns m_fetched m_listed u.2.1 u.2.2.1 u.2.2.2.1 m_placeOf m_blockedShelf m_on m_counts m_doors m_list u.2.2.2.2.1 u.2.2.2.2.2.1 u.2.2.2.2.2.2)) A) ([.ref (d 0), .int x1] : List Value).toArray s 0 0 A) (F0 m 73 ls []) := by
          intro n
          induction n with
          | zero => intro x2_25 x3_24 ls hw hl; exact hw.elim
          | succ n ih_73 =>
            intro x2_25 x3_24 ls hw hl
            have hw : p_M_plan_L73_B m_shelves_4 K_73 (p_M_plan_L73 m_shelves_4 K_73 n) x2_25 x3_24 := hw
            generalize p_M_plan_L73 m_shelves_4 K_73 n = rec_73 at hw ih_73
            refine lv_iload_n hx hb d_M_plan_73 rfl (lv_at hl 0 rfl) ?_
            refine lv_aload_n hx hb d_M_plan_74 rfl (lv_at hl 2 rfl) ?_
            refine va_get (D := D) (ci := 2) (v := .int m_shelves_4) (C := R_M) (T := F_M) (N := 18) hx hb hts (iK iW_M) hown hK hP 0 rfl rfl 15 (by decide) (hts _ (kM kw_545b2532)) (fun _ h9 => h9) rfl d_M_plan_75 ?_
            refine lv_icmp_gt (tgt := 91) hx hb d_M_plan_78 (by decide) (fun c_26 => ?_) (fun c_26 => ?_)
            · have hw := hw.1 c_26
              rw [hK_73] at hw
              have hl : lv_has ls 6 [(3, .int x3_24), (2, .int x2_25), (0, .ref (d 0)), (1, .int x1)] := lv_sub hl [0, 1, 2, 3] rfl
              refine lv_iconst (v := (0 : Int32)) hx hb d_M_plan_91 (by decide) ?_
              refine lv_istore_n (lv' := [(3, .int (0 : Int32)), (2, .int x2_25), (0, .ref (d 0)), (1, .int x1)]) hx hb d_M_plan_92 rfl hl (by decide) rfl (fun ls hl => ?_)
              refine lv_ldc (own := R_M) (v := (1000000 : Int32)) hx hb hown (hts _ (kM kw_15832a1e)) d_M_plan_93 ?_
              refine lv_istore (lv' := [(4, .int (1000000 : Int32)), (3, .int (0 : Int32)), (2, .int x2_25), (0, .ref (d 0)), (1, .int x1)]) hx hb d_M_plan_95 hl (by decide) rfl (fun ls hl => ?_)
              refine lv_iconst (v := (0 : Int32)) hx hb d_M_plan_97 (by decide) ?_
              refine lv_istore (lv' := [(5, .int (0 : Int32)), (4, .int (1000000 : Int32)), (3, .int (0 : Int32)), (2, .int x2_25), (0, .ref (d 0)), (1, .int x1)]) hx hb d_M_plan_98 hl (by decide) rfl (fun ls hl => ?_)
              obtain ⟨K_100, hK_100⟩ : ∃ z : Int32 → Int32 → Int32 → (Nat → Int32) → Prop, z = (fun (k_43 : Int32) (k_44 : Int32) (k_45 : Int32) (k_46 : Nat → Int32) => (p_M_theOrder k_43 m_shelves_4 m_shelf_5 k_46 (fun m_trial_47 => (∃ n, p_M_plan_L151 m_shelves_4 m_trial_47 (fun (k_53 : Int32) (k_54 : Nat → Int32) => (p_M_turnsOf m_places m_front m_shelves_4 m_placeOf m_trial_47 (fun r_55 => post r_55 (0 : Int32) m_shelves_4 (1 : Int32) m_shelves_4 k_54 m_shelf_5 m_trial_47))) n (0 : Int32) m_plan)))) := ⟨_, rfl⟩
              have hw : ∃ n, p_M_plan_L100 x2_25 m_places m_front m_shelves_4 m_placeOf m_shelf_5 K_100 n (0 : Int32) (1000000 : Int32) (0 : Int32) m_trial := by rw [hK_100]; exact hw
              obtain ⟨n_100, hw⟩ := hw
              have key_100 : ∀ (n : Nat) (x3_36 : Int32) (x4_35 : Int32) (x5_34 : Int32) (m_trial_37 : Nat → Int32) (H : Heap) (locs : List Loc) (ls : Array Slot), p_M_plan_L100 x2_25 m_places m_front m_shelves_4 m_placeOf m_shelf_5 K_100 n x3_36 x4_35 x5_34 m_trial_37 → va_P D classes (mW d cI cZ ((0 : Int32)) m_places m_front m_turns m_fetched m_listed m_planned ((1 : Int32)) m_shelves_4 m_placeOf m_blockedShelf m_on m_counts m_doors m_list m_plan m_shelf_5 m_trial_37) H → va_D A (mW d cI cZ ((0 : Int32)) m_places m_front m_turns m_fetched m_listed m_planned ((1 : Int32)) m_shelves_4 m_placeOf m_blockedShelf m_on m_counts m_doors m_list m_plan m_shelf_5 m_trial_37) → va_S A s.heap H locs → lv_has ls 6 [(5, .int x5_34), (4, .int x4_35), (3, .int x3_36), (2, .int x2_25), (0, .ref (d 0)), (1, .int x1)] → W p l e (headSpec w_M_plan rm_M_plan).room s m ([.ref (d 0), .int x1] : List Value).toArray below meth c H locs 0 0 (MQ below (va_Qi (fun r (u : Int32 × Int32 × Int32 × Int32 × (Nat → Int32) × (Nat → Int32) × (Nat → Int32)) => post r u.1 u.2.1 u.2.2.1 u.2.2.2.1 u.2.2.2.2.1 u.2.2.2.2.2.1 u.2.2.2.2.2.2) (fun (u : Int32 × Int32 × Int32 × Int32 × (Nat → Int32) × (Nat → Int32) × (Nat → Int32)) t => va_P D classes (mW d cI cZ u.1 m_places m_front m_turns m_fetched m_listed u.2.1 u.2.2.1 u.2.2.2.1 m_placeOf m_blockedShelf m_on m_counts m_doors m_list u.2.2.2.2.1 u.2.2.2.2.2.1 u.2.2.2.2.2.2) t.heap ∧ va_K D classes [(cI, .int), (cZ, .boolean)] t ∧ va_D A (mW d cI cZ u.1 m_places m_front m_turns m_fetched m_listed u.2.1 u.2.2.1 u.2.2.2.1 m_placeOf m_blockedShelf m_on m_counts m_doors m_list u.2.2.2.2.1 u.2.2.2.2.2.1 u.2.2.2.2.2.2)) A) ([.ref (d 0), .int x1] : List Value).toArray s 0 0 A) (F0 m 100 ls []) := by
                intro n
                induction n with
                | zero => intro x3_36 x4_35 x5_34 m_trial_37 H locs ls hw hP hD hS hl; exact hw.elim
                | succ n ih_100 =>
                  intro x3_36 x4_35 x5_34 m_trial_37 H locs ls hw hP hD hS hl
                  have hw : p_M_plan_L100_B x2_25 m_places m_front m_shelves_4 m_placeOf m_shelf_5 K_100 (p_M_plan_L100 x2_25 m_places m_front m_shelves_4 m_placeOf m_shelf_5 K_100 n) x3_36 x4_35 x5_34 m_trial_37 := hw
                  generalize p_M_plan_L100 x2_25 m_places m_front m_shelves_4 m_placeOf m_shelf_5 K_100 n = rec_100 at hw ih_100
                  refine lv_iload hx hb d_M_plan_100 (lv_at hl 0 rfl) ?_
                  refine lv_iload_n hx hb d_M_plan_102 rfl (lv_at hl 3 rfl) ?_
                  refine lv_icmp_ge (tgt := 136) hx hb d_M_plan_103 (by decide) (fun c_38 => ?_) (fun c_38 => ?_)
                  · have hw := hw.1 c_38
                    rw [hK_100] at hw
                    have hl : lv_has ls 6 [(5, .int x5_34), (4, .int x4_35), (3, .int x3_36), (2, .int x2_25), (0, .ref (d 0)), (1, .int x1)] := lv_sub hl [0, 1, 2, 3, 4, 5] rfl
                    refine lv_aload_n hx hb d_M_plan_136 rfl (lv_at hl 4 rfl) ?_
                    refine lv_iload_n hx hb d_M_plan_137 rfl (lv_at hl 2 rfl) ?_
                    have hPc := hP
                    have hDc := hD
                    have hFc := va_free (wc := mW d cI cZ (0 : Int32) m_places m_front m_turns m_fetched m_listed m_planned (1 : Int32) m_shelves_4 m_placeOf m_blockedShelf m_on m_counts m_doors m_list m_plan m_shelf_5 m_trial_37) hD hS hA [0, 1, 2, 3, 4, 5, 6, 7, 8, 9] rfl
                    refine va_callv (va_runV (As := [.int x3_36]) (rest := []) ⟨hx, hb, hml, hown, hts⟩ (c_M_theOrder hw) (cwV 1 hts (gV k_M_theOrder kw_1ea846db kw_af902a14 kw_1a4d3315 kw_98028344) rfl rfl rfl (by decide +kernel) ⟨(Nat.le_of_ble_eq_true rfl), (Nat.le_of_ble_eq_true rfl)⟩) ⟨kP.blind, va_recv hK hPc (ci := 2) (q0 := 0) rfl rfl, kP.of hK hPc hDc hZ hS hFc⟩ rfl rfl hl.1 rfl (lv_room (Nat.le_of_ble_eq_true rfl)) d_M_plan_138 ⟨(Nat.le_of_ble_eq_true rfl), (Nat.le_of_ble_eq_true rfl)⟩) hS (fun q _ h => hFc q h) hFc (fun u t H1 locs ht hvm hw hB hz1 hk1 hS => ?_)
                    obtain ⟨m_trial_47, rfl⟩ : ∃ z, z = u := ⟨_, rfl⟩
                    obtain ⟨hP1, hK1, hD1⟩ := hB
                    try dsimp only at hw hP1 hD1
                    rw [ht] at hP1
                    have hK1 := va_K.moved hvm.symm hK1
                    obtain ⟨hP, hD⟩ := va_join (wr := []) (w1 := mW d cI cZ (0 : Int32) m_places m_front m_turns m_fetched m_listed m_planned (1 : Int32) m_shelves_4 m_placeOf m_blockedShelf m_on m_counts m_doors m_list m_plan m_shelf_5 m_trial_47) hP hD [0, 1, 2, 3, 4, 5, 6, 7, 8, 9] [] rfl rfl (by decide) (by decide) hk1 hFc hP1 hD1
                    generalize H1 = H at hP hS ⊢
                    have hP : va_P D classes (mW d cI cZ (0 : Int32) m_places m_front m_turns m_fetched m_listed m_planned (1 : Int32) m_shelves_4 m_placeOf m_blockedShelf m_on m_counts m_doors m_list m_plan m_shelf_5 m_trial_47) H := hP
                    have hD : va_D A (mW d cI cZ (0 : Int32) m_places m_front m_turns m_fetched m_listed m_planned (1 : Int32) m_shelves_4 m_placeOf m_blockedShelf m_on m_counts m_doors m_list m_plan m_shelf_5 m_trial_47) := hD
                    refine lv_aload_n hx hb d_M_plan_141 rfl (lv_at hl 4 rfl) ?_
                    refine lv_aload_n hx hb d_M_plan_142 rfl (lv_at hl 4 rfl) ?_
                    refine va_get (D := D) (ci := 2) (v := .int m_shelves_4) (C := R_M) (T := F_M) (N := 18) hx hb hts (iK iW_M) hown hK hP 0 rfl rfl 15 (by decide) (hts _ (kM kw_545b2532)) (fun _ h9 => h9) rfl d_M_plan_143 ?_
                    refine va_put (D := D) (ci := 2) (v := .int m_shelves_4) (ty := .int) (C := R_M) (T := F_M) (N := 18) hx hb hts (iK iW_M) t_M t_M_ok n_M hown hK hP hD hS 0 rfl rfl 12 (by decide) (hts _ (kM kw_29a007b6)) (fun _ h9 => h9) rfl (by decide +kernel) rfl rfl (Nat.le_of_ble_eq_true rfl) d_M_plan_146 (fun H locs hP hD hS => ?_)
                    have hP : va_P D classes (mW d cI cZ (0 : Int32) m_places m_front m_turns m_fetched m_listed m_shelves_4 (1 : Int32) m_shelves_4 m_placeOf m_blockedShelf m_on m_counts m_doors m_list m_plan m_shelf_5 m_trial_47) H := hP
                    have hD : va_D A (mW d cI cZ (0 : Int32) m_places m_front m_turns m_fetched m_listed m_shelves_4 (1 : Int32) m_shelves_4 m_placeOf m_blockedShelf m_on m_counts m_doors m_list m_plan m_shelf_5 m_trial_47) := hD
                    refine lv_iconst (v := (0 : Int32)) hx hb d_M_plan_149 (by decide) ?_
                    refine lv_istore_n (lv' := [(2, .int (0 : Int32)), (5, .int x5_34), (4, .int x4_35), (3, .int x3_36), (0, .ref (d 0)), (1, .int x1)]) hx hb d_M_plan_150 rfl hl (by decide) rfl (fun ls hl => ?_)
                    obtain ⟨K_151, hK_151⟩ : ∃ z : Int32 → (Nat → Int32) → Prop, z = (fun (k_53 : Int32) (k_54 : Nat → Int32) => (p_M_turnsOf m_places m_front m_shelves_4 m_placeOf m_trial_47 (fun r_55 => post r_55 (0 : Int32) m_shelves_4 (1 : Int32) m_shelves_4 k_54 m_shelf_5 m_trial_47))) := ⟨_, rfl⟩
                    have hw : ∃ n, p_M_plan_L151 m_shelves_4 m_trial_47 K_151 n (0 : Int32) m_plan := by rw [hK_151]; exact hw
                    obtain ⟨n_151, hw⟩ := hw
                    have key_151 : ∀ (n : Nat) (x2_48 : Int32) (m_plan_49 : Nat → Int32) (H : Heap) (locs : List Loc) (ls : Array Slot), p_M_plan_L151 m_shelves_4 m_trial_47 K_151 n x2_48 m_plan_49 → va_P D classes (mW d cI cZ ((0 : Int32)) m_places m_front m_turns m_fetched m_listed m_shelves_4 ((1 : Int32)) m_shelves_4 m_placeOf m_blockedShelf m_on m_counts m_doors m_list m_plan_49 m_shelf_5 m_trial_47) H → va_D A (mW d cI cZ ((0 : Int32)) m_places m_front m_turns m_fetched m_listed m_shelves_4 ((1 : Int32)) m_shelves_4 m_placeOf m_blockedShelf m_on m_counts m_doors m_list m_plan_49 m_shelf_5 m_trial_47) → va_S A s.heap H locs → lv_has ls 6 [(2, .int x2_48), (5, .int x5_34), (4, .int x4_35), (3, .int x3_36), (0, .ref (d 0)), (1, .int x1)] → W p l e (headSpec w_M_plan rm_M_plan).room s m ([.ref (d 0), .int x1] : List Value).toArray below meth c H locs 0 0 (MQ below (va_Qi (fun r (u : Int32 × Int32 × Int32 × Int32 × (Nat → Int32) × (Nat → Int32) × (Nat → Int32)) => post r u.1 u.2.1 u.2.2.1 u.2.2.2.1 u.2.2.2.2.1 u.2.2.2.2.2.1 u.2.2.2.2.2.2) (fun (u : Int32 × Int32 × Int32 × Int32 × (Nat → Int32) × (Nat → Int32) × (Nat → Int32)) t => va_P D classes (mW d cI cZ u.1 m_places m_front m_turns m_fetched m_listed u.2.1 u.2.2.1 u.2.2.2.1 m_placeOf m_blockedShelf m_on m_counts m_doors m_list u.2.2.2.2.1 u.2.2.2.2.2.1 u.2.2.2.2.2.2) t.heap ∧ va_K D classes [(cI, .int), (cZ, .boolean)] t ∧ va_D A (mW d cI cZ u.1 m_places m_front m_turns m_fetched m_listed u.2.1 u.2.2.1 u.2.2.2.1 m_placeOf m_blockedShelf m_on m_counts m_doors m_list u.2.2.2.2.1 u.2.2.2.2.2.1 u.2.2.2.2.2.2)) A) ([.ref (d 0), .int x1] : List Value).toArray s 0 0 A) (F0 m 151 ls []) := by
                      intro n
                      induction n with
                      | zero => intro x2_48 m_plan_49 H locs ls hw hP hD hS hl; exact hw.elim
                      | succ n ih_151 =>
                        intro x2_48 m_plan_49 H locs ls hw hP hD hS hl
                        have hw : p_M_plan_L151_B m_shelves_4 m_trial_47 K_151 (p_M_plan_L151 m_shelves_4 m_trial_47 K_151 n) x2_48 m_plan_49 := hw
                        generalize p_M_plan_L151 m_shelves_4 m_trial_47 K_151 n = rec_151 at hw ih_151
                        refine lv_iload_n hx hb d_M_plan_151 rfl (lv_at hl 0 rfl) ?_
                        refine lv_aload_n hx hb d_M_plan_152 rfl (lv_at hl 4 rfl) ?_
                        refine va_get (D := D) (ci := 2) (v := .int m_shelves_4) (C := R_M) (T := F_M) (N := 18) hx hb hts (iK iW_M) hown hK hP 0 rfl rfl 15 (by decide) (hts _ (kM kw_545b2532)) (fun _ h9 => h9) rfl d_M_plan_153 ?_
                        refine lv_icmp_ge (tgt := 177) hx hb d_M_plan_156 (by decide) (fun c_50 => ?_) (fun c_50 => ?_)
                        · have hw := hw.1 c_50
                          rw [hK_151] at hw
                          have hl : lv_has ls 6 [(2, .int x2_48), (5, .int x5_34), (4, .int x4_35), (3, .int x3_36), (0, .ref (d 0)), (1, .int x1)] := lv_sub hl [0, 1, 2, 3, 4, 5] rfl
                          refine lv_aload_n hx hb d_M_plan_177 rfl (lv_at hl 4 rfl) ?_
                          have hPc := hP
                          have hDc := hD
                          have hFc := va_free (wc := mW d cI cZ (0 : Int32) m_places m_front m_turns m_fetched m_listed m_shelves_4 (1 : Int32) m_shelves_4 m_placeOf m_blockedShelf m_on m_counts m_doors m_list m_plan_49 m_shelf_5 m_trial_47) hD hS hA [0, 1, 2, 3, 4, 5, 6, 7, 8, 9] rfl
                          refine vp_callSi (W.runV (As := []) (rest := []) ⟨hx, hb, hml, hown, hts⟩ (c_M_turnsOf hw) (cwV 0 hts (gV k_M_turnsOf kw_f892f1c9 kw_f130ee31 kw_9db763cb kw_98028344) rfl rfl rfl (by decide +kernel) ⟨(Nat.le_of_ble_eq_true rfl), (Nat.le_of_ble_eq_true rfl)⟩) ⟨kP.blind, va_recv hK hPc (ci := 2) (q0 := 0) rfl rfl, kP.of hK hPc hDc hZ hS hFc⟩ rfl rfl hl.1 rfl (lv_room (Nat.le_of_ble_eq_true rfl)) d_M_plan_178 ⟨(Nat.le_of_ble_eq_true rfl), (Nat.le_of_ble_eq_true rfl)⟩) (fun r_55 hw => ?_)
                          exact W.iret (v := r_55) hx hb hr (fun t ht hW => ⟨⟨r_55, ((0 : Int32), m_shelves_4, (1 : Int32), m_shelves_4, m_plan_49, m_shelf_5, m_trial_47), rfl, hw, by rw [ht]; exact hP, va_K.moved hW.alike hK, hD⟩, hS.F ht⟩) hS.2.2 d_M_plan_181
                        · have hw := hw.2 c_50
                          refine lv_aload_n hx hb d_M_plan_159 rfl (lv_at hl 4 rfl) ?_
                          refine va_get (D := D) (ci := 2) (v := .ref (d 7)) (C := R_M) (T := F_M) (N := 18) hx hb hts (iK iW_M) hown hK hP 0 rfl rfl 13 (by decide) (hts _ (kM kw_f176d92d)) (fun _ h9 => h9) rfl d_M_plan_160 ?_
                          refine lv_iload_n hx hb d_M_plan_163 rfl (lv_at hl 0 rfl) ?_
                          refine lv_aload_n hx hb d_M_plan_164 rfl (lv_at hl 4 rfl) ?_
                          refine va_get (D := D) (ci := 2) (v := .ref (d 9)) (C := R_M) (T := F_M) (N := 18) hx hb hts (iK iW_M) hown hK hP 0 rfl rfl 17 (by decide) (hts _ (kM kw_b638f234)) (fun _ h9 => h9) rfl d_M_plan_165 ?_
                          refine lv_iload_n hx hb d_M_plan_168 rfl (lv_at hl 0 rfl) ?_
                          obtain ⟨h_51, hw⟩ := hw
                          refine va_iald hx hb hK hP 9 0 rfl rfl h_51 d_M_plan_169 ?_
                          obtain ⟨h_52, hw⟩ := hw
                          refine va_iast hx hb hK hP hD hS 7 0 rfl rfl h_52 d_M_plan_170 (fun H locs hP hD hS => ?_)
                          have hP : va_P D classes (mW d cI cZ ((0 : Int32)) m_places m_front m_turns m_fetched m_listed m_shelves_4 ((1 : Int32)) m_shelves_4 m_placeOf m_blockedShelf m_on m_counts m_doors m_list (upd m_plan_49 (x2_48).toNatClampNeg (m_trial_47 (x2_48).toNatClampNeg)) m_shelf_5 m_trial_47) H := hP
                          have hD : va_D A (mW d cI cZ ((0 : Int32)) m_places m_front m_turns m_fetched m_listed m_shelves_4 ((1 : Int32)) m_shelves_4 m_placeOf m_blockedShelf m_on m_counts m_doors m_list (upd m_plan_49 (x2_48).toNatClampNeg (m_trial_47 (x2_48).toNatClampNeg)) m_shelf_5 m_trial_47) := hD
                          refine lv_iinc (v := (x2_48 + 1)) (lv' := [(2, .int (x2_48 + 1)), (5, .int x5_34), (4, .int x4_35), (3, .int x3_36), (0, .ref (d 0)), (1, .int x1)]) hx hb d_M_plan_171 hl (k := 0) rfl rfl (by decide) rfl (fun ls hl => ?_)
                          refine lv_goto (tgt := 151) hx hb d_M_plan_174 (by decide) ?_
                          exact ih_151 (x2_48 + 1) (upd m_plan_49 (x2_48).toNatClampNeg (m_trial_47 (x2_48).toNatClampNeg)) _ _ _ hw hP hD hS (lv_sub hl [0, 1, 2, 3, 4, 5] rfl)
                    exact key_151 n_151 (0 : Int32) m_plan _ _ _ hw hP hD hS (lv_sub hl [0, 1, 2, 3, 4, 5] rfl)
                  · have hw := hw.2 c_38
                    refine lv_aload_n hx hb d_M_plan_106 rfl (lv_at hl 4 rfl) ?_
                    refine lv_iload hx hb d_M_plan_107 (lv_at hl 0 rfl) ?_
                    have hPc := hP
                    have hDc := hD
                    have hFc := va_free (wc := mW d cI cZ ((0 : Int32)) m_places m_front m_turns m_fetched m_listed m_planned ((1 : Int32)) m_shelves_4 m_placeOf m_blockedShelf m_on m_counts m_doors m_list m_plan m_shelf_5 m_trial_37) hD hS hA [0, 1, 2, 3, 4, 5, 6, 7, 8, 9] rfl
                    refine va_callv (va_runV (As := [.int x5_34]) (rest := []) ⟨hx, hb, hml, hown, hts⟩ (c_M_theOrder hw) (cwV 1 hts (gV k_M_theOrder kw_1ea846db kw_af902a14 kw_1a4d3315 kw_98028344) rfl rfl rfl (by decide +kernel) ⟨(Nat.le_of_ble_eq_true rfl), (Nat.le_of_ble_eq_true rfl)⟩) ⟨kP.blind, va_recv hK hPc (ci := 2) (q0 := 0) rfl rfl, kP.of hK hPc hDc hZ hS hFc⟩ rfl rfl hl.1 rfl (lv_room (Nat.le_of_ble_eq_true rfl)) d_M_plan_109 ⟨(Nat.le_of_ble_eq_true rfl), (Nat.le_of_ble_eq_true rfl)⟩) hS (fun q _ h => hFc q h) hFc (fun u t H1 locs ht hvm hw hB hz1 hk1 hS => ?_)
                    obtain ⟨m_trial_39, rfl⟩ : ∃ z, z = u := ⟨_, rfl⟩
                    obtain ⟨hP1, hK1, hD1⟩ := hB
                    try dsimp only at hw hP1 hD1
                    rw [ht] at hP1
                    have hK1 := va_K.moved hvm.symm hK1
                    obtain ⟨hP, hD⟩ := va_join (wr := []) (w1 := mW d cI cZ ((0 : Int32)) m_places m_front m_turns m_fetched m_listed m_planned ((1 : Int32)) m_shelves_4 m_placeOf m_blockedShelf m_on m_counts m_doors m_list m_plan m_shelf_5 m_trial_39) hP hD [0, 1, 2, 3, 4, 5, 6, 7, 8, 9] [] rfl rfl (by decide) (by decide) hk1 hFc hP1 hD1
                    generalize H1 = H at hP hS ⊢
                    have hP : va_P D classes (mW d cI cZ ((0 : Int32)) m_places m_front m_turns m_fetched m_listed m_planned ((1 : Int32)) m_shelves_4 m_placeOf m_blockedShelf m_on m_counts m_doors m_list m_plan m_shelf_5 m_trial_39) H := hP
                    have hD : va_D A (mW d cI cZ ((0 : Int32)) m_places m_front m_turns m_fetched m_listed m_planned ((1 : Int32)) m_shelves_4 m_placeOf m_blockedShelf m_on m_counts m_doors m_list m_plan m_shelf_5 m_trial_39) := hD
                    refine lv_aload_n hx hb d_M_plan_112 rfl (lv_at hl 4 rfl) ?_
                    have hPc := hP
                    have hDc := hD
                    have hFc := va_free (wc := mW d cI cZ ((0 : Int32)) m_places m_front m_turns m_fetched m_listed m_planned ((1 : Int32)) m_shelves_4 m_placeOf m_blockedShelf m_on m_counts m_doors m_list m_plan m_shelf_5 m_trial_39) hD hS hA [0, 1, 2, 3, 4, 5, 6, 7, 8, 9] rfl
                    refine vp_callSi (W.runV (As := []) (rest := []) ⟨hx, hb, hml, hown, hts⟩ (c_M_turnsOf hw) (cwV 0 hts (gV k_M_turnsOf kw_f892f1c9 kw_f130ee31 kw_9db763cb kw_98028344) rfl rfl rfl (by decide +kernel) ⟨(Nat.le_of_ble_eq_true rfl), (Nat.le_of_ble_eq_true rfl)⟩) ⟨kP.blind, va_recv hK hPc (ci := 2) (q0 := 0) rfl rfl, kP.of hK hPc hDc hZ hS hFc⟩ rfl rfl hl.1 rfl (lv_room (Nat.le_of_ble_eq_true rfl)) d_M_plan_113 ⟨(Nat.le_of_ble_eq_true rfl), (Nat.le_of_ble_eq_true rfl)⟩) (fun r_40 hw => ?_)
                    refine lv_iload hx hb d_M_plan_116 (lv_at hl 1 rfl) ?_
                    refine lv_icmp_ge (tgt := 130) hx hb d_M_plan_118 (by decide) (fun c_41 => ?_) (fun c_41 => ?_)
                    · have hw := hw.1 c_41
                      refine lv_iinc (v := (x5_34 + 1)) (lv' := [(5, .int (x5_34 + 1)), (4, .int x4_35), (3, .int x3_36), (2, .int x2_25), (0, .ref (d 0)), (1, .int x1)]) hx hb d_M_plan_130 hl (k := 0) rfl rfl (by decide) rfl (fun ls hl => ?_)
                      refine lv_goto (tgt := 100) hx hb d_M_plan_133 (by decide) ?_
                      exact ih_100 x3_36 x4_35 (x5_34 + 1) m_trial_39 _ _ _ hw hP hD hS (lv_sub hl [0, 1, 2, 3, 4, 5] rfl)
                    · have hw := hw.2 c_41
                      refine lv_aload_n hx hb d_M_plan_121 rfl (lv_at hl 4 rfl) ?_
                      have hPc := hP
                      have hDc := hD
                      have hFc := va_free (wc := mW d cI cZ ((0 : Int32)) m_places m_front m_turns m_fetched m_listed m_planned ((1 : Int32)) m_shelves_4 m_placeOf m_blockedShelf m_on m_counts m_doors m_list m_plan m_shelf_5 m_trial_39) hD hS hA [0, 1, 2, 3, 4, 5, 6, 7, 8, 9] rfl
                      refine vp_callSi (W.runV (As := []) (rest := []) ⟨hx, hb, hml, hown, hts⟩ (c_M_turnsOf hw) (cwV 0 hts (gV k_M_turnsOf kw_f892f1c9 kw_f130ee31 kw_9db763cb kw_98028344) rfl rfl rfl (by decide +kernel) ⟨(Nat.le_of_ble_eq_true rfl), (Nat.le_of_ble_eq_true rfl)⟩) ⟨kP.blind, va_recv hK hPc (ci := 2) (q0 := 0) rfl rfl, kP.of hK hPc hDc hZ hS hFc⟩ rfl rfl hl.1 rfl (lv_room (Nat.le_of_ble_eq_true rfl)) d_M_plan_122 ⟨(Nat.le_of_ble_eq_true rfl), (Nat.le_of_ble_eq_true rfl)⟩) (fun r_42 hw => ?_)
                      refine lv_istore (lv' := [(4, .int r_42), (5, .int x5_34), (3, .int x3_36), (2, .int x2_25), (0, .ref (d 0)), (1, .int x1)]) hx hb d_M_plan_125 hl (by decide) rfl (fun ls hl => ?_)
                      refine lv_iload hx hb d_M_plan_127 (lv_at hl 1 rfl) ?_
                      refine lv_istore_n (lv' := [(3, .int x5_34), (4, .int r_42), (5, .int x5_34), (2, .int x2_25), (0, .ref (d 0)), (1, .int x1)]) hx hb d_M_plan_129 rfl hl (by decide) rfl (fun ls hl => ?_)
                      refine lv_iinc (v := (x5_34 + 1)) (lv' := [(5, .int (x5_34 + 1)), (3, .int x5_34), (4, .int r_42), (2, .int x2_25), (0, .ref (d 0)), (1, .int x1)]) hx hb d_M_plan_130 hl (k := 2) rfl rfl (by decide) rfl (fun ls hl => ?_)
                      refine lv_goto (tgt := 100) hx hb d_M_plan_133 (by decide) ?_
                      exact ih_100 x5_34 r_42 (x5_34 + 1) m_trial_39 _ _ _ hw hP hD hS (lv_sub hl [0, 2, 1, 3, 4, 5] rfl)
              exact key_100 n_100 (0 : Int32) (1000000 : Int32) (0 : Int32) m_trial _ _ _ hw hP hD hS (lv_sub hl [0, 1, 2, 3, 4, 5] rfl)
            · have hw := hw.2 c_26
              refine lv_iload_n hx hb d_M_plan_81 rfl (lv_at hl 1 rfl) ?_
              refine lv_iload_n hx hb d_M_plan_82 rfl (lv_at hl 0 rfl) ?_
              refine lv_imul hx hb d_M_plan_83 ?_
              refine lv_istore_n (lv' := [(2, .int (x2_25 * x3_24)), (3, .int x3_24), (0, .ref (d 0)), (1, .int x1)]) hx hb d_M_plan_84 rfl hl (by decide) rfl (fun ls hl => ?_)
              refine lv_iinc (v := (x3_24 + 1)) (lv' := [(3, .int (x3_24 + 1)), (2, .int (x2_25 * x3_24)), (0, .ref (d 0)), (1, .int x1)]) hx hb d_M_plan_85 hl (k := 1) rfl rfl (by decide) rfl (fun ls hl => ?_)
              refine lv_goto (tgt := 73) hx hb d_M_plan_88 (by decide) ?_
              exact ih_73 (x2_25 * x3_24) (x3_24 + 1) _ hw (lv_sub hl [0, 1, 2, 3] rfl)
        exact key_73 n_73 (1 : Int32) (2 : Int32) _ hw (lv_sub hl [0, 1, 2, 3] rfl)
    · have hw := hw.2 c_6
      refine lv_iconst (v := (2 : Int32)) hx hb d_M_plan_21 (by decide) ?_
      refine lv_goto (tgt := 26) hx hb d_M_plan_22 (by decide) ?_
      refine va_put (D := D) (ci := 2) (v := .int (2 : Int32)) (ty := .int) (C := R_M) (T := F_M) (N := 18) hx hb hts (iK iW_M) t_M t_M_ok n_M hown hK hP hD hS 0 rfl rfl 0 (by decide) (hts _ (kM kw_8fca7397)) (fun _ h9 => h9) rfl (by decide +kernel) rfl rfl (Nat.le_of_ble_eq_true rfl) d_M_plan_26 (fun H locs hP hD hS => ?_)
      have hP : va_P D classes (mW d cI cZ (2 : Int32) m_places m_front m_turns m_fetched m_listed m_planned m_wasExact m_shelves_4 m_placeOf m_blockedShelf m_on m_counts m_doors m_list m_plan m_shelf_5 m_trial) H := hP
      have hD : va_D A (mW d cI cZ (2 : Int32) m_places m_front m_turns m_fetched m_listed m_planned m_wasExact m_shelves_4 m_placeOf m_blockedShelf m_on m_counts m_doors m_list m_plan m_shelf_5 m_trial) := hD
      refine lv_aload_n hx hb d_M_plan_29 rfl (lv_at hl 0 rfl) ?_
      refine va_get (D := D) (ci := 2) (v := .int (2 : Int32)) (C := R_M) (T := F_M) (N := 18) hx hb hts (iK iW_M) hown hK hP 0 rfl rfl 0 (by decide) (hts _ (kM kw_8fca7397)) (fun _ h9 => h9) rfl d_M_plan_30 ?_
      refine lv_if_eq (tgt := 38) hx hb d_M_plan_33 (by decide) (fun c_56 => absurd c_56 (by decide)) (fun c_56 => ?_)
      refine lv_iconst (v := (0 : Int32)) hx hb d_M_plan_36 (by decide) ?_
      exact W.iret (v := (0 : Int32)) hx hb hr (fun t ht hW => ⟨⟨(0 : Int32), ((2 : Int32), m_planned, m_wasExact, m_shelves_4, m_plan, m_shelf_5, m_trial), rfl, hw, by rw [ht]; exact hP, va_K.moved hW.alike hK, hD⟩, hS.F ht⟩) hS.2.2 d_M_plan_37
  · have hw := hw.2 c_2
    refine lv_iconst (v := (1 : Int32)) hx hb d_M_plan_10 (by decide) ?_
    refine lv_goto (tgt := 26) hx hb d_M_plan_11 (by decide) ?_
    refine va_put (D := D) (ci := 2) (v := .int (1 : Int32)) (ty := .int) (C := R_M) (T := F_M) (N := 18) hx hb hts (iK iW_M) t_M t_M_ok n_M hown hK hP hD hS 0 rfl rfl 0 (by decide) (hts _ (kM kw_8fca7397)) (fun _ h9 => h9) rfl (by decide +kernel) rfl rfl (Nat.le_of_ble_eq_true rfl) d_M_plan_26 (fun H locs hP hD hS => ?_)
    have hP : va_P D classes (mW d cI cZ (1 : Int32) m_places m_front m_turns m_fetched m_listed m_planned m_wasExact m_shelves m_placeOf m_blockedShelf m_on m_counts m_doors m_list m_plan m_shelf m_trial) H := hP
    have hD : va_D A (mW d cI cZ (1 : Int32) m_places m_front m_turns m_fetched m_listed m_planned m_wasExact m_shelves m_placeOf m_blockedShelf m_on m_counts m_doors m_list m_plan m_shelf m_trial) := hD
    refine lv_aload_n hx hb d_M_plan_29 rfl (lv_at hl 0 rfl) ?_
    refine va_get (D := D) (ci := 2) (v := .int (1 : Int32)) (C := R_M) (T := F_M) (N := 18) hx hb hts (iK iW_M) hown hK hP 0 rfl rfl 0 (by decide) (hts _ (kM kw_8fca7397)) (fun _ h9 => h9) rfl d_M_plan_30 ?_
    refine lv_if_eq (tgt := 38) hx hb d_M_plan_33 (by decide) (fun c_57 => absurd c_57 (by decide)) (fun c_57 => ?_)
    refine lv_iconst (v := (0 : Int32)) hx hb d_M_plan_36 (by decide) ?_
    exact W.iret (v := (0 : Int32)) hx hb hr (fun t ht hW => ⟨⟨(0 : Int32), ((1 : Int32), m_planned, m_wasExact, m_shelves, m_plan, m_shelf, m_trial), rfl, hw, by rw [ht]; exact hP, va_K.moved hW.alike hK, hD⟩, hS.F ht⟩) hS.2.2 d_M_plan_37
