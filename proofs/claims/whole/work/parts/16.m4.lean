def p_M_days_L34_B (K_34 : Int32 → (Nat → Int32) → Prop) (rec_34 : Int32 → (Nat → Int32) → Prop) (x3_34 : Int32) (m_counts_34 : Nat → Int32) : Prop := (((20 : Int32) ≤ x3_34 → K_34 x3_34 m_counts_34) ∧ (¬ (20 : Int32) ≤ x3_34 → (vp_in x3_34 20 ∧ (¬ (2 : Int32) = 0 ∧ (vp_in x3_34 20 ∧ rec_34 (x3_34 + 1) (upd m_counts_34 (x3_34).toNatClampNeg ((m_counts_34 (x3_34).toNatClampNeg) / (2 : Int32))))))))
def p_M_days_L34 (K_34 : Int32 → (Nat → Int32) → Prop) : Nat → Int32 → (Nat → Int32) → Prop
  | 0 => fun _ _ => False
  | n + 1 => p_M_days_L34_B K_34 (p_M_days_L34 K_34 n)
def p_M_days_L20_B (v1 : Int32) (m_thrownCode : Int32) (K_20 : Int32 → (Nat → Int32) → Prop) (rec_20 : Int32 → (Nat → Int32) → Prop) (x2_20 : Int32) (m_counts_20 : Nat → Int32) : Prop := ((v1 ≤ x2_20 → K_20 x2_20 m_counts_20) ∧ (¬ v1 ≤ x2_20 → ((¬ m_thrownCode = 0 → K_20 x2_20 m_counts_20) ∧ (m_thrownCode = 0 → (∃ n, p_M_days_L34 (fun (k_15 : Int32) (k_16 : Nat → Int32) => rec_20 (x2_20 + 1) k_16) n (0 : Int32) m_counts_20)))))
def p_M_days_L20 (v1 : Int32) (m_thrownCode : Int32) (K_20 : Int32 → (Nat → Int32) → Prop) : Nat → Int32 → (Nat → Int32) → Prop
  | 0 => fun _ _ => False
  | n + 1 => p_M_days_L20_B v1 m_thrownCode K_20 (p_M_days_L20 v1 m_thrownCode K_20 n)
def p_M_days (x1 : Int32) (m_counts : Nat → Int32) (post : Int32 → (Nat → Int32) → Prop) : Prop := (p_M_none x1 (31 : Int32) (fun r_1 => ((r_1 = 0 → (∃ n, p_M_days_L20 x1 (0 : Int32) (fun (k_29 : Int32) (k_30 : Nat → Int32) => post (0 : Int32) k_30) n (0 : Int32) m_counts)) ∧ (¬ r_1 = 0 → (∃ n, p_M_days_L20 x1 (1 : Int32) (fun (k_43 : Int32) (k_44 : Nat → Int32) => post (1 : Int32) k_44) n (0 : Int32) m_counts)))))
abbrev rm_M_days : Room := { frames := 2, cells := 0, slots := 0, locals := 61 }
set_option maxHeartbeats 4000000 in
set_option maxRecDepth 100000 in
theorem c_M_days {l : Launch} {D : va_G} {sa : Nat → Nat} {cI cZ : ClassId} {sz : Nat} {d : Nat → Nat} {m_thrownCode : Int32} {m_places : Int32} {m_front : Int32} {m_turns : Int32} {m_fetched : Int32} {m_listed : Int32} {m_planned : Int32} {m_wasExact : Int32} {m_shelves : Int32} {m_placeOf : Nat → Int32} {m_blockedShelf : Nat → Int32} {m_on : Nat → Int32} {m_counts : Nat → Int32} {m_doors : Nat → Int32} {m_list : Nat → Int32} {m_plan : Nat → Int32} {m_shelf : Nat → Int32} {m_trial : Nat → Int32} {x1 : Int32} {post : Int32 → (Nat → Int32) → Prop} (hw : p_M_days x1 m_counts post) : Met l y_M_days w_M_days rm_M_days (va_Pc [.ref (d 0), .int x1] (kP D sa [(cI, .int), (cZ, .boolean)] (mW d cI cZ m_thrownCode m_places m_front m_turns m_fetched m_listed m_planned m_wasExact m_shelves m_placeOf m_blockedShelf m_on m_counts m_doors m_list m_plan m_shelf m_trial) sz)) (va_Qv (fun (u : Int32 × (Nat → Int32)) => post u.1 u.2) (fun (u : Int32 × (Nat → Int32)) t => va_P D classes (mW d cI cZ u.1 m_places m_front m_turns m_fetched m_listed m_planned m_wasExact m_shelves m_placeOf m_blockedShelf m_on u.2 m_doors m_list m_plan m_shelf m_trial) t.heap ∧ va_K D classes [(cI, .int), (cZ, .boolean)] t ∧ va_D (va_A (mW d cI cZ m_thrownCode m_places m_front m_turns m_fetched m_listed m_planned m_wasExact m_shelves m_placeOf m_blockedShelf m_on m_counts m_doors m_list m_plan m_shelf m_trial) sz) (mW d cI cZ u.1 m_places m_front m_turns m_fetched m_listed m_planned m_wasExact m_shelves m_placeOf m_blockedShelf m_on u.2 m_doors m_list m_plan m_shelf m_trial)) (va_A (mW d cI cZ m_thrownCode m_places m_front m_turns m_fetched m_listed m_planned m_wasExact m_shelves m_placeOf m_blockedShelf m_on m_counts m_doors m_list m_plan m_shelf m_trial) sz)) 0 0 (va_A (mW d cI cZ m_thrownCode m_places m_front m_turns m_fetched m_listed m_planned m_wasExact m_shelves m_placeOf m_blockedShelf m_on m_counts m_doors m_list m_plan m_shelf m_trial) sz) := by
  refine Met.ofW (cc := b_M_days) (maxL := 4) (ret := none) (by decide) rfl ?_
  intro p e s m args below meth c s₁ B hml hv
  obtain ⟨rfl, hsz, hP, hK, hD0, hZ⟩ := hv
  have hx := B.exec
  have hb := B.bytes
  have hr := B.returns
  have hts := atoms_spec (ws := w_M_days) B.pre
  have hown : s.vm.findClass R_M = some m.cls := findClass_of_methodNamed B.named
  have hlocks := B.notSynchronized
  subst hsz
  have hD := hD0.self (sz := s.heap.size)
  generalize hAe : (va_A (mW d cI cZ m_thrownCode m_places m_front m_turns m_fetched m_listed m_planned m_wasExact m_shelves m_placeOf m_blockedShelf m_on m_counts m_doors m_list m_plan m_shelf m_trial) s.heap.size) = A at hD hZ ⊢
  have hA : ∀ q : Nat, s.heap.size ≤ q → A q := fun q h => by rw [← hAe]; exact Or.inr h
  have hS : va_S A s.heap s.heap [] := va_S.rf
  have hl := lv_entry ([.ref (d 0), .int x1]) (n := 4) (Nat.le_of_ble_eq_true rfl)
  rw [lg_entry_eq]
  generalize (lg_sl ([.ref (d 0), .int x1]) ++ List.replicate (4 - (lg_sl ([.ref (d 0), .int x1])).length) Slot.unset).toArray = ls at hl ⊢
  have hl : lv_has ls 4 [(0, .ref (d 0)), (1, .int x1)] := hl
  refine lv_aload_n hx hb d_M_days_0 rfl (lv_at hl 0 rfl) ?_
  refine lv_iload_n hx hb d_M_days_1 rfl (lv_at hl 1 rfl) ?_
  refine lv_bipush (v := (31 : Int32)) hx hb d_M_days_2 (by decide) ?_
  have hPc := hP.sub (ws' := []) [] rfl
  have hDc := hD.sub (ws' := []) [] (by decide) rfl
  have hFc := va_free (wc := []) hD hS hA [] rfl
  refine vp_callSi (W.runS (As := [.int x1, .int (31 : Int32)]) (rest := [.ref (d 0)]) ⟨hx, hb, hml, hown, hts⟩ (c_M_none hw) (cwS 2 hts (gS k_M_none kw_344abd76 kw_8e7adc0a kw_98028344) rfl rfl rfl (by decide +kernel) ⟨(Nat.le_of_ble_eq_true rfl), (Nat.le_of_ble_eq_true rfl)⟩) ⟨kP.blind, kP.of hK hPc hDc hZ hS hFc⟩ rfl rfl hl.1 rfl (lv_room (Nat.le_of_ble_eq_true rfl)) d_M_days_4 ⟨(Nat.le_of_ble_eq_true rfl), (Nat.le_of_ble_eq_true rfl)⟩) (fun r_1 hw => ?_)
  refine lv_if_eq (tgt := 14) hx hb d_M_days_7 (by decide) (fun c_2 => ?_) (fun c_2 => ?_)
  · have hw := hw.1 c_2
    refine lv_iconst (v := (0 : Int32)) hx hb d_M_days_14 (by decide) ?_
    refine va_put (D := D) (ci := 2) (v := .int (0 : Int32)) (ty := .int) (C := R_M) (T := F_M) (N := 18) hx hb hts (iK iW_M) t_M t_M_ok n_M hown hK hP hD hS 0 rfl rfl 0 (by decide) (hts _ (kM kw_8fca7397)) (fun _ h9 => h9) rfl (by decide +kernel) rfl rfl (Nat.le_of_ble_eq_true rfl) d_M_days_15 (fun H locs hP hD hS => ?_)
    have hP : va_P D classes (mW d cI cZ (0 : Int32) m_places m_front m_turns m_fetched m_listed m_planned m_wasExact m_shelves m_placeOf m_blockedShelf m_on m_counts m_doors m_list m_plan m_shelf m_trial) H := hP
    have hD : va_D A (mW d cI cZ (0 : Int32) m_places m_front m_turns m_fetched m_listed m_planned m_wasExact m_shelves m_placeOf m_blockedShelf m_on m_counts m_doors m_list m_plan m_shelf m_trial) := hD
    refine lv_iconst (v := (0 : Int32)) hx hb d_M_days_18 (by decide) ?_
    refine lv_istore_n (lv' := [(2, .int (0 : Int32)), (0, .ref (d 0)), (1, .int x1)]) hx hb d_M_days_19 rfl hl (by decide) rfl (fun ls hl => ?_)
    obtain ⟨K_20, hK_20⟩ : ∃ z : Int32 → (Nat → Int32) → Prop, z = (fun (k_29 : Int32) (k_30 : Nat → Int32) => post (0 : Int32) k_30) := ⟨_, rfl⟩
    have hw : ∃ n, p_M_days_L20 x1 (0 : Int32) K_20 n (0 : Int32) m_counts := by rw [hK_20]; exact hw
    obtain ⟨n_20, hw⟩ := hw
    have key_20 : ∀ (n : Nat) (x2_17 : Int32) (m_counts_18 : Nat → Int32) (H : Heap) (locs : List Loc) (ls : Array Slot), p_M_days_L20 x1 (0 : Int32) K_20 n x2_17 m_counts_18 → va_P D classes (mW d cI cZ ((0 : Int32)) m_places m_front m_turns m_fetched m_listed m_planned m_wasExact m_shelves m_placeOf m_blockedShelf m_on m_counts_18 m_doors m_list m_plan m_shelf m_trial) H → va_D A (mW d cI cZ ((0 : Int32)) m_places m_front m_turns m_fetched m_listed m_planned m_wasExact m_shelves m_placeOf m_blockedShelf m_on m_counts_18 m_doors m_list m_plan m_shelf m_trial) → va_S A s.heap H locs → lv_has ls 4 [(2, .int x2_17), (0, .ref (d 0)), (1, .int x1)] → W p l e (headSpec w_M_days rm_M_days).room s m ([.ref (d 0), .int x1] : List Value).toArray below meth c H locs 0 0 (MQ below (va_Qv (fun (u : Int32 × (Nat → Int32)) => post u.1 u.2) (fun (u : Int32 × (Nat → Int32)) t => va_P D classes (mW d cI cZ u.1 m_places m_front m_turns m_fetched m_listed m_planned m_wasExact m_shelves m_placeOf m_blockedShelf m_on u.2 m_doors m_list m_plan m_shelf m_trial) t.heap ∧ va_K D classes [(cI, .int), (cZ, .boolean)] t ∧ va_D A (mW d cI cZ u.1 m_places m_front m_turns m_fetched m_listed m_planned m_wasExact m_shelves m_placeOf m_blockedShelf m_on u.2 m_doors m_list m_plan m_shelf m_trial)) A) ([.ref (d 0), .int x1] : List Value).toArray s 0 0 A) (F0 m 20 ls []) := by
      intro n
      induction n with
      | zero => intro x2_17 m_counts_18 H locs ls hw hP hD hS hl; exact hw.elim
      | succ n ih_20 =>
        intro x2_17 m_counts_18 H locs ls hw hP hD hS hl
        have hw : p_M_days_L20_B x1 (0 : Int32) K_20 (p_M_days_L20 x1 (0 : Int32) K_20 n) x2_17 m_counts_18 := hw
        generalize p_M_days_L20 x1 (0 : Int32) K_20 n = rec_20 at hw ih_20
        refine lv_iload_n hx hb d_M_days_20 rfl (lv_at hl 0 rfl) ?_
        refine lv_iload_n hx hb d_M_days_21 rfl (lv_at hl 2 rfl) ?_
        refine lv_icmp_ge (tgt := 66) hx hb d_M_days_22 (by decide) (fun c_19 => ?_) (fun c_19 => ?_)
        · have hw := hw.1 c_19
          rw [hK_20] at hw
          have hl : lv_has ls 4 [(2, .int x2_17), (0, .ref (d 0)), (1, .int x1)] := lv_sub hl [0, 1, 2] rfl
          exact W.vret hx hb hr (fun t ht hW => ⟨⟨((0 : Int32), m_counts_18), rfl, hw, by rw [ht]; exact hP, va_K.moved hW.alike hK, hD⟩, hS.F ht⟩) hS.2.2 d_M_days_66
        · have hw := hw.2 c_19
          refine lv_aload_n hx hb d_M_days_25 rfl (lv_at hl 1 rfl) ?_
          refine va_get (D := D) (ci := 2) (v := .int ((0 : Int32))) (C := R_M) (T := F_M) (N := 18) hx hb hts (iK iW_M) hown hK hP 0 rfl rfl 0 (by decide) (hts _ (kM kw_8fca7397)) (fun _ h9 => h9) rfl d_M_days_26 ?_
          refine lv_if_ne (tgt := 66) hx hb d_M_days_29 (by decide) (fun c_20 => ?_) (fun c_20 => ?_)
          · have hw := hw.1 c_20
            rw [hK_20] at hw
            have hl : lv_has ls 4 [(2, .int x2_17), (0, .ref (d 0)), (1, .int x1)] := lv_sub hl [0, 1, 2] rfl
            exact W.vret hx hb hr (fun t ht hW => ⟨⟨((0 : Int32), m_counts_18), rfl, hw, by rw [ht]; exact hP, va_K.moved hW.alike hK, hD⟩, hS.F ht⟩) hS.2.2 d_M_days_66
          · have hw := hw.2 c_20
            refine lv_iconst (v := (0 : Int32)) hx hb d_M_days_32 (by decide) ?_
            refine lv_istore_n (lv' := [(3, .int (0 : Int32)), (2, .int x2_17), (0, .ref (d 0)), (1, .int x1)]) hx hb d_M_days_33 rfl hl (by decide) rfl (fun ls hl => ?_)
            obtain ⟨K_34, hK_34⟩ : ∃ z : Int32 → (Nat → Int32) → Prop, z = (fun (k_27 : Int32) (k_28 : Nat → Int32) => rec_20 (x2_17 + 1) k_28) := ⟨_, rfl⟩
            have hw : ∃ n, p_M_days_L34 K_34 n (0 : Int32) m_counts_18 := by rw [hK_34]; exact hw
            obtain ⟨n_34, hw⟩ := hw
            have key_34 : ∀ (n : Nat) (x3_21 : Int32) (m_counts_22 : Nat → Int32) (H : Heap) (locs : List Loc) (ls : Array Slot), p_M_days_L34 K_34 n x3_21 m_counts_22 → va_P D classes (mW d cI cZ ((0 : Int32)) m_places m_front m_turns m_fetched m_listed m_planned m_wasExact m_shelves m_placeOf m_blockedShelf m_on m_counts_22 m_doors m_list m_plan m_shelf m_trial) H → va_D A (mW d cI cZ ((0 : Int32)) m_places m_front m_turns m_fetched m_listed m_planned m_wasExact m_shelves m_placeOf m_blockedShelf m_on m_counts_22 m_doors m_list m_plan m_shelf m_trial) → va_S A s.heap H locs → lv_has ls 4 [(3, .int x3_21), (2, .int x2_17), (0, .ref (d 0)), (1, .int x1)] → W p l e (headSpec w_M_days rm_M_days).room s m ([.ref (d 0), .int x1] : List Value).toArray below meth c H locs 0 0 (MQ below (va_Qv (fun (u : Int32 × (Nat → Int32)) => post u.1 u.2) (fun (u : Int32 × (Nat → Int32)) t => va_P D classes (mW d cI cZ u.1 m_places m_front m_turns m_fetched m_listed m_planned m_wasExact m_shelves m_placeOf m_blockedShelf m_on u.2 m_doors m_list m_plan m_shelf m_trial) t.heap ∧ va_K D classes [(cI, .int), (cZ, .boolean)] t ∧ va_D A (mW d cI cZ u.1 m_places m_front m_turns m_fetched m_listed m_planned m_wasExact m_shelves m_placeOf m_blockedShelf m_on u.2 m_doors m_list m_plan m_shelf m_trial)) A) ([.ref (d 0), .int x1] : List Value).toArray s 0 0 A) (F0 m 34 ls []) := by
              intro n
              induction n with
              | zero => intro x3_21 m_counts_22 H locs ls hw hP hD hS hl; exact hw.elim
              | succ n ih_34 =>
                intro x3_21 m_counts_22 H locs ls hw hP hD hS hl
                have hw : p_M_days_L34_B K_34 (p_M_days_L34 K_34 n) x3_21 m_counts_22 := hw
                generalize p_M_days_L34 K_34 n = rec_34 at hw ih_34
                refine lv_iload_n hx hb d_M_days_34 rfl (lv_at hl 0 rfl) ?_
                refine lv_bipush (v := (20 : Int32)) hx hb d_M_days_35 (by decide) ?_
                refine lv_icmp_ge (tgt := 60) hx hb d_M_days_37 (by decide) (fun c_23 => ?_) (fun c_23 => ?_)
                · have hw := hw.1 c_23
                  rw [hK_34] at hw
                  have hl : lv_has ls 4 [(3, .int x3_21), (2, .int x2_17), (0, .ref (d 0)), (1, .int x1)] := lv_sub hl [0, 1, 2, 3] rfl
                  refine lv_iinc (v := (x2_17 + 1)) (lv' := [(2, .int (x2_17 + 1)), (3, .int x3_21), (0, .ref (d 0)), (1, .int x1)]) hx hb d_M_days_60 hl (k := 1) rfl rfl (by decide) rfl (fun ls hl => ?_)
                  refine lv_goto (tgt := 20) hx hb d_M_days_63 (by decide) ?_
                  exact ih_20 (x2_17 + 1) m_counts_22 _ _ _ hw hP hD hS (lv_sub hl [0, 2, 3] rfl)
                · have hw := hw.2 c_23
                  refine lv_aload_n hx hb d_M_days_40 rfl (lv_at hl 2 rfl) ?_
                  refine va_get (D := D) (ci := 2) (v := .ref (d 4)) (C := R_M) (T := F_M) (N := 18) hx hb hts (iK iW_M) hown hK hP 0 rfl rfl 6 (by decide) (hts _ (kM kw_0595da16)) (fun _ h9 => h9) rfl d_M_days_41 ?_
                  refine lv_iload_n hx hb d_M_days_44 rfl (lv_at hl 0 rfl) ?_
                  refine lv_aload_n hx hb d_M_days_45 rfl (lv_at hl 2 rfl) ?_
                  refine va_get (D := D) (ci := 2) (v := .ref (d 4)) (C := R_M) (T := F_M) (N := 18) hx hb hts (iK iW_M) hown hK hP 0 rfl rfl 6 (by decide) (hts _ (kM kw_0595da16)) (fun _ h9 => h9) rfl d_M_days_46 ?_
                  refine lv_iload_n hx hb d_M_days_49 rfl (lv_at hl 0 rfl) ?_
                  obtain ⟨h_24, hw⟩ := hw
                  refine va_iald hx hb hK hP 4 0 rfl rfl h_24 d_M_days_50 ?_
                  refine lv_iconst (v := (2 : Int32)) hx hb d_M_days_51 (by decide) ?_
                  obtain ⟨h_25, hw⟩ := hw
                  refine lv_idiv hx hb d_M_days_52 h_25 ?_
                  obtain ⟨h_26, hw⟩ := hw
                  refine va_iast hx hb hK hP hD hS 4 0 rfl rfl h_26 d_M_days_53 (fun H locs hP hD hS => ?_)
                  have hP : va_P D classes (mW d cI cZ ((0 : Int32)) m_places m_front m_turns m_fetched m_listed m_planned m_wasExact m_shelves m_placeOf m_blockedShelf m_on (upd m_counts_22 (x3_21).toNatClampNeg ((m_counts_22 (x3_21).toNatClampNeg) / (2 : Int32))) m_doors m_list m_plan m_shelf m_trial) H := hP
                  have hD : va_D A (mW d cI cZ ((0 : Int32)) m_places m_front m_turns m_fetched m_listed m_planned m_wasExact m_shelves m_placeOf m_blockedShelf m_on (upd m_counts_22 (x3_21).toNatClampNeg ((m_counts_22 (x3_21).toNatClampNeg) / (2 : Int32))) m_doors m_list m_plan m_shelf m_trial) := hD
                  refine lv_iinc (v := (x3_21 + 1)) (lv' := [(3, .int (x3_21 + 1)), (2, .int x2_17), (0, .ref (d 0)), (1, .int x1)]) hx hb d_M_days_54 hl (k := 0) rfl rfl (by decide) rfl (fun ls hl => ?_)
                  refine lv_goto (tgt := 34) hx hb d_M_days_57 (by decide) ?_
                  exact ih_34 (x3_21 + 1) (upd m_counts_22 (x3_21).toNatClampNeg ((m_counts_22 (x3_21).toNatClampNeg) / (2 : Int32))) _ _ _ hw hP hD hS (lv_sub hl [0, 1, 2, 3] rfl)
            exact key_34 n_34 (0 : Int32) m_counts_18 _ _ _ hw hP hD hS (lv_sub hl [0, 1, 2, 3] rfl)
    exact key_20 n_20 (0 : Int32) m_counts _ _ _ hw hP hD hS (lv_sub hl [0, 1, 2] rfl)
  · have hw := hw.2 c_2
    refine lv_iconst (v := (1 : Int32)) hx hb d_M_days_10 (by decide) ?_
    refine lv_goto (tgt := 15) hx hb d_M_days_11 (by decide) ?_
    refine va_put (D := D) (ci := 2) (v := .int (1 : Int32)) (ty := .int) (C := R_M) (T := F_M) (N := 18) hx hb hts (iK iW_M) t_M t_M_ok n_M hown hK hP hD hS 0 rfl rfl 0 (by decide) (hts _ (kM kw_8fca7397)) (fun _ h9 => h9) rfl (by decide +kernel) rfl rfl (Nat.le_of_ble_eq_true rfl) d_M_days_15 (fun H locs hP hD hS => ?_)
    have hP : va_P D classes (mW d cI cZ (1 : Int32) m_places m_front m_turns m_fetched m_listed m_planned m_wasExact m_shelves m_placeOf m_blockedShelf m_on m_counts m_doors m_list m_plan m_shelf m_trial) H := hP
    have hD : va_D A (mW d cI cZ (1 : Int32) m_places m_front m_turns m_fetched m_listed m_planned m_wasExact m_shelves m_placeOf m_blockedShelf m_on m_counts m_doors m_list m_plan m_shelf m_trial) := hD
    refine lv_iconst (v := (0 : Int32)) hx hb d_M_days_18 (by decide) ?_
    refine lv_istore_n (lv' := [(2, .int (0 : Int32)), (0, .ref (d 0)), (1, .int x1)]) hx hb d_M_days_19 rfl hl (by decide) rfl (fun ls hl => ?_)
    obtain ⟨K_20, hK_20⟩ : ∃ z : Int32 → (Nat → Int32) → Prop, z = (fun (k_43 : Int32) (k_44 : Nat → Int32) => post (1 : Int32) k_44) := ⟨_, rfl⟩
    have hw : ∃ n, p_M_days_L20 x1 (1 : Int32) K_20 n (0 : Int32) m_counts := by rw [hK_20]; exact hw
    obtain ⟨n_20, hw⟩ := hw
    have key_20 : ∀ (n : Nat) (x2_31 : Int32) (m_counts_32 : Nat → Int32) (H : Heap) (locs : List Loc) (ls : Array Slot), p_M_days_L20 x1 (1 : Int32) K_20 n x2_31 m_counts_32 → va_P D classes (mW d cI cZ ((1 : Int32)) m_places m_front m_turns m_fetched m_listed m_planned m_wasExact m_shelves m_placeOf m_blockedShelf m_on m_counts_32 m_doors m_list m_plan m_shelf m_trial) H → va_D A (mW d cI cZ ((1 : Int32)) m_places m_front m_turns m_fetched m_listed m_planned m_wasExact m_shelves m_placeOf m_blockedShelf m_on m_counts_32 m_doors m_list m_plan m_shelf m_trial) → va_S A s.heap H locs → lv_has ls 4 [(2, .int x2_31), (0, .ref (d 0)), (1, .int x1)] → W p l e (headSpec w_M_days rm_M_days).room s m ([.ref (d 0), .int x1] : List Value).toArray below meth c H locs 0 0 (MQ below (va_Qv (fun (u : Int32 × (Nat → Int32)) => post u.1 u.2) (fun (u : Int32 × (Nat → Int32)) t => va_P D classes (mW d cI cZ u.1 m_places m_front m_turns m_fetched m_listed m_planned m_wasExact m_shelves m_placeOf m_blockedShelf m_on u.2 m_doors m_list m_plan m_shelf m_trial) t.heap ∧ va_K D classes [(cI, .int), (cZ, .boolean)] t ∧ va_D A (mW d cI cZ u.1 m_places m_front m_turns m_fetched m_listed m_planned m_wasExact m_shelves m_placeOf m_blockedShelf m_on u.2 m_doors m_list m_plan m_shelf m_trial)) A) ([.ref (d 0), .int x1] : List Value).toArray s 0 0 A) (F0 m 20 ls []) := by
      intro n
      induction n with
      | zero => intro x2_31 m_counts_32 H locs ls hw hP hD hS hl; exact hw.elim
      | succ n ih_20 =>
        intro x2_31 m_counts_32 H locs ls hw hP hD hS hl
        have hw : p_M_days_L20_B x1 (1 : Int32) K_20 (p_M_days_L20 x1 (1 : Int32) K_20 n) x2_31 m_counts_32 := hw
        generalize p_M_days_L20 x1 (1 : Int32) K_20 n = rec_20 at hw ih_20
        refine lv_iload_n hx hb d_M_days_20 rfl (lv_at hl 0 rfl) ?_
        refine lv_iload_n hx hb d_M_days_21 rfl (lv_at hl 2 rfl) ?_
        refine lv_icmp_ge (tgt := 66) hx hb d_M_days_22 (by decide) (fun c_33 => ?_) (fun c_33 => ?_)
        · have hw := hw.1 c_33
          rw [hK_20] at hw
          have hl : lv_has ls 4 [(2, .int x2_31), (0, .ref (d 0)), (1, .int x1)] := lv_sub hl [0, 1, 2] rfl
          exact W.vret hx hb hr (fun t ht hW => ⟨⟨((1 : Int32), m_counts_32), rfl, hw, by rw [ht]; exact hP, va_K.moved hW.alike hK, hD⟩, hS.F ht⟩) hS.2.2 d_M_days_66
        · have hw := hw.2 c_33
          refine lv_aload_n hx hb d_M_days_25 rfl (lv_at hl 1 rfl) ?_
          refine va_get (D := D) (ci := 2) (v := .int ((1 : Int32))) (C := R_M) (T := F_M) (N := 18) hx hb hts (iK iW_M) hown hK hP 0 rfl rfl 0 (by decide) (hts _ (kM kw_8fca7397)) (fun _ h9 => h9) rfl d_M_days_26 ?_
          refine lv_if_ne (tgt := 66) hx hb d_M_days_29 (by decide) (fun c_34 => ?_) (fun c_34 => ?_)
          · have hw := hw.1 c_34
            rw [hK_20] at hw
            have hl : lv_has ls 4 [(2, .int x2_31), (0, .ref (d 0)), (1, .int x1)] := lv_sub hl [0, 1, 2] rfl
            exact W.vret hx hb hr (fun t ht hW => ⟨⟨((1 : Int32), m_counts_32), rfl, hw, by rw [ht]; exact hP, va_K.moved hW.alike hK, hD⟩, hS.F ht⟩) hS.2.2 d_M_days_66
          · have hw := hw.2 c_34
            refine lv_iconst (v := (0 : Int32)) hx hb d_M_days_32 (by decide) ?_
            refine lv_istore_n (lv' := [(3, .int (0 : Int32)), (2, .int x2_31), (0, .ref (d 0)), (1, .int x1)]) hx hb d_M_days_33 rfl hl (by decide) rfl (fun ls hl => ?_)
            obtain ⟨K_34, hK_34⟩ : ∃ z : Int32 → (Nat → Int32) → Prop, z = (fun (k_41 : Int32) (k_42 : Nat → Int32) => rec_20 (x2_31 + 1) k_42) := ⟨_, rfl⟩
            have hw : ∃ n, p_M_days_L34 K_34 n (0 : Int32) m_counts_32 := by rw [hK_34]; exact hw
            obtain ⟨n_34, hw⟩ := hw
            have key_34 : ∀ (n : Nat) (x3_35 : Int32) (m_counts_36 : Nat → Int32) (H : Heap) (locs : List Loc) (ls : Array Slot), p_M_days_L34 K_34 n x3_35 m_counts_36 → va_P D classes (mW d cI cZ ((1 : Int32)) m_places m_front m_turns m_fetched m_listed m_planned m_wasExact m_shelves m_placeOf m_blockedShelf m_on m_counts_36 m_doors m_list m_plan m_shelf m_trial) H → va_D A (mW d cI cZ ((1 : Int32)) m_places m_front m_turns m_fetched m_listed m_planned m_wasExact m_shelves m_placeOf m_blockedShelf m_on m_counts_36 m_doors m_list m_plan m_shelf m_trial) → va_S A s.heap H locs → lv_has ls 4 [(3, .int x3_35), (2, .int x2_31), (0, .ref (d 0)), (1, .int x1)] → W p l e (headSpec w_M_days rm_M_days).room s m ([.ref (d 0), .int x1] : List Value).toArray below meth c H locs 0 0 (MQ below (va_Qv (fun (u : Int32 × (Nat → Int32)) => post u.1 u.2) (fun (u : Int32 × (Nat → Int32)) t => va_P D classes (mW d cI cZ u.1 m_places m_front m_turns m_fetched m_listed m_planned m_wasExact m_shelves m_placeOf m_blockedShelf m_on u.2 m_doors m_list m_plan m_shelf m_trial) t.heap ∧ va_K D classes [(cI, .int), (cZ, .boolean)] t ∧ va_D A (mW d cI cZ u.1 m_places m_front m_turns m_fetched m_listed m_planned m_wasExact m_shelves m_placeOf m_blockedShelf m_on u.2 m_doors m_list m_plan m_shelf m_trial)) A) ([.ref (d 0), .int x1] : List Value).toArray s 0 0 A) (F0 m 34 ls []) := by
              intro n
              induction n with
              | zero => intro x3_35 m_counts_36 H locs ls hw hP hD hS hl; exact hw.elim
              | succ n ih_34 =>
                intro x3_35 m_counts_36 H locs ls hw hP hD hS hl
                have hw : p_M_days_L34_B K_34 (p_M_days_L34 K_34 n) x3_35 m_counts_36 := hw
                generalize p_M_days_L34 K_34 n = rec_34 at hw ih_34
                refine lv_iload_n hx hb d_M_days_34 rfl (lv_at hl 0 rfl) ?_
                refine lv_bipush (v := (20 : Int32)) hx hb d_M_days_35 (by decide) ?_
                refine lv_icmp_ge (tgt := 60) hx hb d_M_days_37 (by decide) (fun c_37 => ?_) (fun c_37 => ?_)
                · have hw := hw.1 c_37
                  rw [hK_34] at hw
                  have hl : lv_has ls 4 [(3, .int x3_35), (2, .int x2_31), (0, .ref (d 0)), (1, .int x1)] := lv_sub hl [0, 1, 2, 3] rfl
                  refine lv_iinc (v := (x2_31 + 1)) (lv' := [(2, .int (x2_31 + 1)), (3, .int x3_35), (0, .ref (d 0)), (1, .int x1)]) hx hb d_M_days_60 hl (k := 1) rfl rfl (by decide) rfl (fun ls hl => ?_)
                  refine lv_goto (tgt := 20) hx hb d_M_days_63 (by decide) ?_
                  exact ih_20 (x2_31 + 1) m_counts_36 _ _ _ hw hP hD hS (lv_sub hl [0, 2, 3] rfl)
                · have hw := hw.2 c_37
                  refine lv_aload_n hx hb d_M_days_40 rfl (lv_at hl 2 rfl) ?_
                  refine va_get (D := D) (ci := 2) (v := .ref (d 4)) (C := R_M) (T := F_M) (N := 18) hx hb hts (iK iW_M) hown hK hP 0 rfl rfl 6 (by decide) (hts _ (kM kw_0595da16)) (fun _ h9 => h9) rfl d_M_days_41 ?_
                  refine lv_iload_n hx hb d_M_days_44 rfl (lv_at hl 0 rfl) ?_
                  refine lv_aload_n hx hb d_M_days_45 rfl (lv_at hl 2 rfl) ?_
                  refine va_get (D := D) (ci := 2) (v := .ref (d 4)) (C := R_M) (T := F_M) (N := 18) hx hb hts (iK iW_M) hown hK hP 0 rfl rfl 6 (by decide) (hts _ (kM kw_0595da16)) (fun _ h9 => h9) rfl d_M_days_46 ?_
                  refine lv_iload_n hx hb d_M_days_49 rfl (lv_at hl 0 rfl) ?_
                  obtain ⟨h_38, hw⟩ := hw
                  refine va_iald hx hb hK hP 4 0 rfl rfl h_38 d_M_days_50 ?_
                  refine lv_iconst (v := (2 : Int32)) hx hb d_M_days_51 (by decide) ?_
                  obtain ⟨h_39, hw⟩ := hw
                  refine lv_idiv hx hb d_M_days_52 h_39 ?_
                  obtain ⟨h_40, hw⟩ := hw
                  refine va_iast hx hb hK hP hD hS 4 0 rfl rfl h_40 d_M_days_53 (fun H locs hP hD hS => ?_)
                  have hP : va_P D classes (mW d cI cZ ((1 : Int32)) m_places m_front m_turns m_fetched m_listed m_planned m_wasExact m_shelves m_placeOf m_blockedShelf m_on (upd m_counts_36 (x3_35).toNatClampNeg ((m_counts_36 (x3_35).toNatClampNeg) / (2 : Int32))) m_doors m_list m_plan m_shelf m_trial) H := hP
                  have hD : va_D A (mW d cI cZ ((1 : Int32)) m_places m_front m_turns m_fetched m_listed m_planned m_wasExact m_shelves m_placeOf m_blockedShelf m_on (upd m_counts_36 (x3_35).toNatClampNeg ((m_counts_36 (x3_35).toNatClampNeg) / (2 : Int32))) m_doors m_list m_plan m_shelf m_trial) := hD
                  refine lv_iinc (v := (x3_35 + 1)) (lv' := [(3, .int (x3_35 + 1)), (2, .int x2_31), (0, .ref (d 0)), (1, .int x1)]) hx hb d_M_days_54 hl (k := 0) rfl rfl (by decide) rfl (fun ls hl => ?_)
                  refine lv_goto (tgt := 34) hx hb d_M_days_57 (by decide) ?_
                  exact ih_34 (x3_35 + 1) (upd m_counts_36 (x3_35).toNatClampNeg ((m_counts_36 (x3_35).toNatClampNeg) / (2 : Int32))) _ _ _ hw hP hD hS (lv_sub hl [0, 1, 2, 3] rfl)
            exact key_34 n_34 (0 : Int32) m_counts_32 _ _ _ hw hP hD hS (lv_sub hl [0, 1, 2, 3] rfl)
    exact key_20 n_20 (0 : Int32) m_counts _ _ _ hw hP hD hS (lv_sub hl [0, 1, 2] rfl)
def p_M_learned (x1 : Int32) (m_counts : Nat → Int32) (post : Int32 → Int32 → Prop) : Prop := (p_M_none x1 (20 : Int32) (fun r_1 => ((r_1 = 0 → (vp_in x1 20 ∧ post (m_counts (x1).toNatClampNeg) (0 : Int32))) ∧ (¬ r_1 = 0 → post (0 : Int32) (1 : Int32)))))
abbrev rm_M_learned : Room := { frames := 2, cells := 0, slots := 0, locals := 61 }
set_option maxHeartbeats 4000000 in
set_option maxRecDepth 100000 in
theorem c_M_learned {l : Launch} {D : va_G} {sa : Nat → Nat} {cI cZ : ClassId} {sz : Nat} {d : Nat → Nat} {m_thrownCode : Int32} {m_places : Int32} {m_front : Int32} {m_turns : Int32} {m_fetched : Int32} {m_listed : Int32} {m_planned : Int32} {m_wasExact : Int32} {m_shelves : Int32} {m_placeOf : Nat → Int32} {m_blockedShelf : Nat → Int32} {m_on : Nat → Int32} {m_counts : Nat → Int32} {m_doors : Nat → Int32} {m_list : Nat → Int32} {m_plan : Nat → Int32} {m_shelf : Nat → Int32} {m_trial : Nat → Int32} {x1 : Int32} {post : Int32 → Int32 → Prop} (hw : p_M_learned x1 m_counts post) : Met l y_M_learned w_M_learned rm_M_learned (va_Pc [.ref (d 0), .int x1] (kP D sa [(cI, .int), (cZ, .boolean)] (mW d cI cZ m_thrownCode m_places m_front m_turns m_fetched m_listed m_planned m_wasExact m_shelves m_placeOf m_blockedShelf m_on m_counts m_doors m_list m_plan m_shelf m_trial) sz)) (va_Qi (fun r (u : Int32) => post r u) (fun (u : Int32) t => va_P D classes (mW d cI cZ u m_places m_front m_turns m_fetched m_listed m_planned m_wasExact m_shelves m_placeOf m_blockedShelf m_on m_counts m_doors m_list m_plan m_shelf m_trial) t.heap ∧ va_K D classes [(cI, .int), (cZ, .boolean)] t ∧ va_D (va_A (mW d cI cZ m_thrownCode m_places m_front m_turns m_fetched m_listed m_planned m_wasExact m_shelves m_placeOf m_blockedShelf m_on m_counts m_doors m_list m_plan m_shelf m_trial) sz) (mW d cI cZ u m_places m_front m_turns m_fetched m_listed m_planned m_wasExact m_shelves m_placeOf m_blockedShelf m_on m_counts m_doors m_list m_plan m_shelf m_trial)) (va_A (mW d cI cZ m_thrownCode m_places m_front m_turns m_fetched m_listed m_planned m_wasExact m_shelves m_placeOf m_blockedShelf m_on m_counts m_doors m_list m_plan m_shelf m_trial) sz)) 0 0 (va_A (mW d cI cZ m_thrownCode m_places m_front m_turns m_fetched m_listed m_planned m_wasExact m_shelves m_placeOf m_blockedShelf m_on m_counts m_doors m_list m_plan m_shelf m_trial) sz) := by
  refine Met.ofW (cc := b_M_learned) (maxL := 2) (ret := (some .int)) (by decide) rfl ?_
  intro p e s m args below meth c s₁ B hml hv
  obtain ⟨rfl, hsz, hP, hK, hD0, hZ⟩ := hv
  have hx := B.exec
  have hb := B.bytes
  have hr := B.returns
  have hts := atoms_spec (ws := w_M_learned) B.pre
  have hown : s.vm.findClass R_M = some m.cls := findClass_of_methodNamed B.named
  have hlocks := B.notSynchronized
  subst hsz
  have hD := hD0.self (sz := s.heap.size)
  generalize hAe : (va_A (mW d cI cZ m_thrownCode m_places m_front m_turns m_fetched m_listed m_planned m_wasExact m_shelves m_placeOf m_blockedShelf m_on m_counts m_doors m_list m_plan m_shelf m_trial) s.heap.size) = A at hD hZ ⊢
  have hA : ∀ q : Nat, s.heap.size ≤ q → A q := fun q h => by rw [← hAe]; exact Or.inr h
  have hS : va_S A s.heap s.heap [] := va_S.rf
  have hl := lv_entry ([.ref (d 0), .int x1]) (n := 2) (Nat.le_of_ble_eq_true rfl)
  rw [lg_entry_eq]
  generalize (lg_sl ([.ref (d 0), .int x1]) ++ List.replicate (2 - (lg_sl ([.ref (d 0), .int x1])).length) Slot.unset).toArray = ls at hl ⊢
  have hl : lv_has ls 2 [(0, .ref (d 0)), (1, .int x1)] := hl
  refine lv_aload_n hx hb d_M_learned_0 rfl (lv_at hl 0 rfl) ?_
  refine lv_iload_n hx hb d_M_learned_1 rfl (lv_at hl 1 rfl) ?_
  refine lv_bipush (v := (20 : Int32)) hx hb d_M_learned_2 (by decide) ?_
  have hPc := hP.sub (ws' := []) [] rfl
  have hDc := hD.sub (ws' := []) [] (by decide) rfl
  have hFc := va_free (wc := []) hD hS hA [] rfl
  refine vp_callSi (W.runS (As := [.int x1, .int (20 : Int32)]) (rest := [.ref (d 0)]) ⟨hx, hb, hml, hown, hts⟩ (c_M_none hw) (cwS 2 hts (gS k_M_none kw_344abd76 kw_8e7adc0a kw_98028344) rfl rfl rfl (by decide +kernel) ⟨(Nat.le_of_ble_eq_true rfl), (Nat.le_of_ble_eq_true rfl)⟩) ⟨kP.blind, kP.of hK hPc hDc hZ hS hFc⟩ rfl rfl hl.1 rfl (lv_room (Nat.le_of_ble_eq_true rfl)) d_M_learned_4 ⟨(Nat.le_of_ble_eq_true rfl), (Nat.le_of_ble_eq_true rfl)⟩) (fun r_1 hw => ?_)
  refine lv_if_eq (tgt := 14) hx hb d_M_learned_7 (by decide) (fun c_2 => ?_) (fun c_2 => ?_)
  · have hw := hw.1 c_2
    refine lv_iconst (v := (0 : Int32)) hx hb d_M_learned_14 (by decide) ?_
    refine va_put (D := D) (ci := 2) (v := .int (0 : Int32)) (ty := .int) (C := R_M) (T := F_M) (N := 18) hx hb hts (iK iW_M) t_M t_M_ok n_M hown hK hP hD hS 0 rfl rfl 0 (by decide) (hts _ (kM kw_8fca7397)) (fun _ h9 => h9) rfl (by decide +kernel) rfl rfl (Nat.le_of_ble_eq_true rfl) d_M_learned_15 (fun H locs hP hD hS => ?_)
    have hP : va_P D classes (mW d cI cZ (0 : Int32) m_places m_front m_turns m_fetched m_listed m_planned m_wasExact m_shelves m_placeOf m_blockedShelf m_on m_counts m_doors m_list m_plan m_shelf m_trial) H := hP
    have hD : va_D A (mW d cI cZ (0 : Int32) m_places m_front m_turns m_fetched m_listed m_planned m_wasExact m_shelves m_placeOf m_blockedShelf m_on m_counts m_doors m_list m_plan m_shelf m_trial) := hD
    refine lv_aload_n hx hb d_M_learned_18 rfl (lv_at hl 0 rfl) ?_
    refine va_get (D := D) (ci := 2) (v := .int (0 : Int32)) (C := R_M) (T := F_M) (N := 18) hx hb hts (iK iW_M) hown hK hP 0 rfl rfl 0 (by decide) (hts _ (kM kw_8fca7397)) (fun _ h9 => h9) rfl d_M_learned_19 ?_
    refine lv_if_eq (tgt := 29) hx hb d_M_learned_22 (by decide) (fun c_3 => ?_) (fun c_3 => absurd c_3 (by decide))
    refine lv_aload_n hx hb d_M_learned_29 rfl (lv_at hl 0 rfl) ?_
    refine va_get (D := D) (ci := 2) (v := .ref (d 4)) (C := R_M) (T := F_M) (N := 18) hx hb hts (iK iW_M) hown hK hP 0 rfl rfl 6 (by decide) (hts _ (kM kw_0595da16)) (fun _ h9 => h9) rfl d_M_learned_30 ?_
    refine lv_iload_n hx hb d_M_learned_33 rfl (lv_at hl 1 rfl) ?_
    obtain ⟨h_4, hw⟩ := hw
    refine va_iald hx hb hK hP 4 0 rfl rfl h_4 d_M_learned_34 ?_
    exact W.iret (v := (m_counts (x1).toNatClampNeg)) hx hb hr (fun t ht hW => ⟨⟨(m_counts (x1).toNatClampNeg), (0 : Int32), rfl, hw, by rw [ht]; exact hP, va_K.moved hW.alike hK, hD⟩, hS.F ht⟩) hS.2.2 d_M_learned_35
  · have hw := hw.2 c_2
    refine lv_iconst (v := (1 : Int32)) hx hb d_M_learned_10 (by decide) ?_
    refine lv_goto (tgt := 15) hx hb d_M_learned_11 (by decide) ?_
    refine va_put (D := D) (ci := 2) (v := .int (1 : Int32)) (ty := .int) (C := R_M) (T := F_M) (N := 18) hx hb hts (iK iW_M) t_M t_M_ok n_M hown hK hP hD hS 0 rfl rfl 0 (by decide) (hts _ (kM kw_8fca7397)) (fun _ h9 => h9) rfl (by decide +kernel) rfl rfl (Nat.le_of_ble_eq_true rfl) d_M_learned_15 (fun H locs hP hD hS => ?_)
    have hP : va_P D classes (mW d cI cZ (1 : Int32) m_places m_front m_turns m_fetched m_listed m_planned m_wasExact m_shelves m_placeOf m_blockedShelf m_on m_counts m_doors m_list m_plan m_shelf m_trial) H := hP
    have hD : va_D A (mW d cI cZ (1 : Int32) m_places m_front m_turns m_fetched m_listed m_planned m_wasExact m_shelves m_placeOf m_blockedShelf m_on m_counts m_doors m_list m_plan m_shelf m_trial) := hD
    refine lv_aload_n hx hb d_M_learned_18 rfl (lv_at hl 0 rfl) ?_
    refine va_get (D := D) (ci := 2) (v := .int (1 : Int32)) (C := R_M) (T := F_M) (N := 18) hx hb hts (iK iW_M) hown hK hP 0 rfl rfl 0 (by decide) (hts _ (kM kw_8fca7397)) (fun _ h9 => h9) rfl d_M_learned_19 ?_
    refine lv_if_eq (tgt := 29) hx hb d_M_learned_22 (by decide) (fun c_5 => absurd c_5 (by decide)) (fun c_5 => ?_)
    refine lv_iconst (v := (0 : Int32)) hx hb d_M_learned_25 (by decide) ?_
    refine lv_goto (tgt := 35) hx hb d_M_learned_26 (by decide) ?_
    exact W.iret (v := (0 : Int32)) hx hb hr (fun t ht hW => ⟨⟨(0 : Int32), (1 : Int32), rfl, hw, by rw [ht]; exact hP, va_K.moved hW.alike hK, hD⟩, hS.F ht⟩) hS.2.2 d_M_learned_35
def p_M_rest_L9_B (m_places : Int32) (m_on : Nat → Int32) (m_counts : Nat → Int32) (K_9 : Int32 → Int32 → Prop) (rec_9 : Int32 → Int32 → Prop) (x1_9 : Int32) (x2_9 : Int32) : Prop := ((m_places ≤ x2_9 → K_9 x1_9 x2_9) ∧ (¬ m_places ≤ x2_9 → ((x1_9 < 0 → rec_9 x2_9 (x2_9 + 1)) ∧ (¬ x1_9 < 0 → (p_M_sum x2_9 m_on m_counts (fun r_3 => (p_M_sum x1_9 m_on m_counts (fun r_4 => ((r_3 ≤ r_4 → rec_9 x1_9 (x2_9 + 1)) ∧ (¬ r_3 ≤ r_4 → rec_9 x2_9 (x2_9 + 1)))))))))))
def p_M_rest_L9 (m_places : Int32) (m_on : Nat → Int32) (m_counts : Nat → Int32) (K_9 : Int32 → Int32 → Prop) : Nat → Int32 → Int32 → Prop
  | 0 => fun _ _ => False
  | n + 1 => p_M_rest_L9_B m_places m_on m_counts K_9 (p_M_rest_L9 m_places m_on m_counts K_9 n)
def p_M_rest (m_places : Int32) (m_placeOf : Nat → Int32) (m_on : Nat → Int32) (m_counts : Nat → Int32) (post : Int32 → Int32 → Prop) : Prop := (∃ n, p_M_rest_L9 m_places m_on m_counts (fun (k_13 : Int32) (k_14 : Int32) => ((0 ≤ k_13 → (vp_in k_13 24 ∧ post (m_placeOf (k_13).toNatClampNeg) (0 : Int32))) ∧ (¬ 0 ≤ k_13 → post (-1 : Int32) (0 : Int32)))) n (-1 : Int32) (0 : Int32))
abbrev rm_M_rest : Room := { frames := 2, cells := 0, slots := 0, locals := 63 }
set_option maxHeartbeats 4000000 in
set_option maxRecDepth 100000 in
theorem c_M_rest {l : Launch} {D : va_G} {sa : Nat → Nat} {cI cZ : ClassId} {sz : Nat} {d : Nat → Nat} {m_thrownCode : Int32} {m_places : Int32} {m_front : Int32} {m_turns : Int32} {m_fetched : Int32} {m_listed : Int32} {m_planned : Int32} {m_wasExact : Int32} {m_shelves : Int32} {m_placeOf : Nat → Int32} {m_blockedShelf : Nat → Int32} {m_on : Nat → Int32} {m_counts : Nat → Int32} {m_doors : Nat → Int32} {m_list : Nat → Int32} {m_plan : Nat → Int32} {m_shelf : Nat → Int32} {m_trial : Nat → Int32} {post : Int32 → Int32 → Prop} (hw : p_M_rest m_places m_placeOf m_on m_counts post) : Met l y_M_rest w_M_rest rm_M_rest (va_Pc [.ref (d 0)] (kP D sa [(cI, .int), (cZ, .boolean)] (mW d cI cZ m_thrownCode m_places m_front m_turns m_fetched m_listed m_planned m_wasExact m_shelves m_placeOf m_blockedShelf m_on m_counts m_doors m_list m_plan m_shelf m_trial) sz)) (va_Qi (fun r (u : Int32) => post r u) (fun (u : Int32) t => va_P D classes (mW d cI cZ u m_places m_front m_turns m_fetched m_listed m_planned m_wasExact m_shelves m_placeOf m_blockedShelf m_on m_counts m_doors m_list m_plan m_shelf m_trial) t.heap ∧ va_K D classes [(cI, .int), (cZ, .boolean)] t ∧ va_D (va_A (mW d cI cZ m_thrownCode m_places m_front m_turns m_fetched m_listed m_planned m_wasExact m_shelves m_placeOf m_blockedShelf m_on m_counts m_doors m_list m_plan m_shelf m_trial) sz) (mW d cI cZ u m_places m_front m_turns m_fetched m_listed m_planned m_wasExact m_shelves m_placeOf m_blockedShelf m_on m_counts m_doors m_list m_plan m_shelf m_trial)) (va_A (mW d cI cZ m_thrownCode m_places m_front m_turns m_fetched m_listed m_planned m_wasExact m_shelves m_placeOf m_blockedShelf m_on m_counts m_doors m_list m_plan m_shelf m_trial) sz)) 0 0 (va_A (mW d cI cZ m_thrownCode m_places m_front m_turns m_fetched m_listed m_planned m_wasExact m_shelves m_placeOf m_blockedShelf m_on m_counts m_doors m_list m_plan m_shelf m_trial) sz) := by
  refine Met.ofW (cc := b_M_rest) (maxL := 3) (ret := (some .int)) (by decide) rfl ?_
  intro p e s m args below meth c s₁ B hml hv
  obtain ⟨rfl, hsz, hP, hK, hD0, hZ⟩ := hv
  have hx := B.exec
  have hb := B.bytes
  have hr := B.returns
  have hts := atoms_spec (ws := w_M_rest) B.pre
  have hown : s.vm.findClass R_M = some m.cls := findClass_of_methodNamed B.named
  have hlocks := B.notSynchronized
  subst hsz
  have hD := hD0.self (sz := s.heap.size)
  generalize hAe : (va_A (mW d cI cZ m_thrownCode m_places m_front m_turns m_fetched m_listed m_planned m_wasExact m_shelves m_placeOf m_blockedShelf m_on m_counts m_doors m_list m_plan m_shelf m_trial) s.heap.size) = A at hD hZ ⊢
  have hA : ∀ q : Nat, s.heap.size ≤ q → A q := fun q h => by rw [← hAe]; exact Or.inr h
  have hS : va_S A s.heap s.heap [] := va_S.rf
  have hl := lv_entry ([.ref (d 0)]) (n := 3) (Nat.le_of_ble_eq_true rfl)
  rw [lg_entry_eq]
  generalize (lg_sl ([.ref (d 0)]) ++ List.replicate (3 - (lg_sl ([.ref (d 0)])).length) Slot.unset).toArray = ls at hl ⊢
  have hl : lv_has ls 3 [(0, .ref (d 0))] := hl
  refine lv_aload_n hx hb d_M_rest_0 rfl (lv_at hl 0 rfl) ?_
  refine lv_iconst (v := (0 : Int32)) hx hb d_M_rest_1 (by decide) ?_
  refine va_put (D := D) (ci := 2) (v := .int (0 : Int32)) (ty := .int) (C := R_M) (T := F_M) (N := 18) hx hb hts (iK iW_M) t_M t_M_ok n_M hown hK hP hD hS 0 rfl rfl 0 (by decide) (hts _ (kM kw_8fca7397)) (fun _ h9 => h9) rfl (by decide +kernel) rfl rfl (Nat.le_of_ble_eq_true rfl) d_M_rest_2 (fun H locs hP hD hS => ?_)
  have hP : va_P D classes (mW d cI cZ (0 : Int32) m_places m_front m_turns m_fetched m_listed m_planned m_wasExact m_shelves m_placeOf m_blockedShelf m_on m_counts m_doors m_list m_plan m_shelf m_trial) H := hP
  have hD : va_D A (mW d cI cZ (0 : Int32) m_places m_front m_turns m_fetched m_listed m_planned m_wasExact m_shelves m_placeOf m_blockedShelf m_on m_counts m_doors m_list m_plan m_shelf m_trial) := hD
  refine lv_iconst (v := (-1 : Int32)) hx hb d_M_rest_5 (by decide) ?_
  refine lv_istore_n (lv' := [(1, .int (-1 : Int32)), (0, .ref (d 0))]) hx hb d_M_rest_6 rfl hl (by decide) rfl (fun ls hl => ?_)
  refine lv_iconst (v := (0 : Int32)) hx hb d_M_rest_7 (by decide) ?_
  refine lv_istore_n (lv' := [(2, .int (0 : Int32)), (1, .int (-1 : Int32)), (0, .ref (d 0))]) hx hb d_M_rest_8 rfl hl (by decide) rfl (fun ls hl => ?_)
  obtain ⟨K_9, hK_9⟩ : ∃ z : Int32 → Int32 → Prop, z = (fun (k_13 : Int32) (k_14 : Int32) => ((0 ≤ k_13 → (vp_in k_13 24 ∧ post (m_placeOf (k_13).toNatClampNeg) (0 : Int32))) ∧ (¬ 0 ≤ k_13 → post (-1 : Int32) (0 : Int32)))) := ⟨_, rfl⟩
  have hw : ∃ n, p_M_rest_L9 m_places m_on m_counts K_9 n (-1 : Int32) (0 : Int32) := by rw [hK_9]; exact hw
  obtain ⟨n_9, hw⟩ := hw
  have key_9 : ∀ (n : Nat) (x1_7 : Int32) (x2_6 : Int32) (ls : Array Slot), p_M_rest_L9 m_places m_on m_counts K_9 n x1_7 x2_6 → lv_has ls 3 [(2, .int x2_6), (1, .int x1_7), (0, .ref (d 0))] → W p l e (headSpec w_M_rest rm_M_rest).room s m ([.ref (d 0)] : List Value).toArray below meth c H locs 0 0 (MQ below (va_Qi (fun r (u : Int32) => post r u) (fun (u : Int32) t => va_P D classes (mW d cI cZ u m_places m_front m_turns m_fetched m_listed m_planned m_wasExact m_shelves m_placeOf m_blockedShelf m_on m_counts m_doors m_list m_plan m_shelf m_trial) t.heap ∧ va_K D classes [(cI, .int), (cZ, .boolean)] t ∧ va_D A (mW d cI cZ u m_places m_front m_turns m_fetched m_listed m_planned m_wasExact m_shelves m_placeOf m_blockedShelf m_on m_counts m_doors m_list m_plan m_shelf m_trial)) A) ([.ref (d 0)] : List Value).toArray s 0 0 A) (F0 m 9 ls []) := by
    intro n
    induction n with
    | zero => intro x1_7 x2_6 ls hw hl; exact hw.elim
    | succ n ih_9 =>
      intro x1_7 x2_6 ls hw hl
      have hw : p_M_rest_L9_B m_places m_on m_counts K_9 (p_M_rest_L9 m_places m_on m_counts K_9 n) x1_7 x2_6 := hw
      generalize p_M_rest_L9 m_places m_on m_counts K_9 n = rec_9 at hw ih_9
      refine lv_iload_n hx hb d_M_rest_9 rfl (lv_at hl 0 rfl) ?_
      refine lv_aload_n hx hb d_M_rest_10 rfl (lv_at hl 2 rfl) ?_
      refine va_get (D := D) (ci := 2) (v := .int m_places) (C := R_M) (T := F_M) (N := 18) hx hb hts (iK iW_M) hown hK hP 0 rfl rfl 1 (by decide) (hts _ (kM kw_7139d127)) (fun _ h9 => h9) rfl d_M_rest_11 ?_
      refine lv_icmp_ge (tgt := 42) hx hb d_M_rest_14 (by decide) (fun c_8 => ?_) (fun c_8 => ?_)
      · have hw := hw.1 c_8
        rw [hK_9] at hw
        have hl : lv_has ls 3 [(2, .int x2_6), (1, .int x1_7), (0, .ref (d 0))] := lv_sub hl [0, 1, 2] rfl
        refine lv_iload_n hx hb d_M_rest_42 rfl (lv_at hl 1 rfl) ?_
        refine lv_if_ge (tgt := 50) hx hb d_M_rest_43 (by decide) (fun c_15 => ?_) (fun c_15 => ?_)
        · have hw := hw.1 c_15
          refine lv_aload_n hx hb d_M_rest_50 rfl (lv_at hl 2 rfl) ?_
          refine va_get (D := D) (ci := 2) (v := .ref (d 1)) (C := R_M) (T := F_M) (N := 18) hx hb hts (iK iW_M) hown hK hP 0 rfl rfl 3 (by decide) (hts _ (kM kw_1dda6185)) (fun _ h9 => h9) rfl d_M_rest_51 ?_
          refine lv_iload_n hx hb d_M_rest_54 rfl (lv_at hl 1 rfl) ?_
          obtain ⟨h_16, hw⟩ := hw
          refine va_iald hx hb hK hP 1 0 rfl rfl h_16 d_M_rest_55 ?_
          exact W.iret (v := (m_placeOf (x1_7).toNatClampNeg)) hx hb hr (fun t ht hW => ⟨⟨(m_placeOf (x1_7).toNatClampNeg), (0 : Int32), rfl, hw, by rw [ht]; exact hP, va_K.moved hW.alike hK, hD⟩, hS.F ht⟩) hS.2.2 d_M_rest_56
        · have hw := hw.2 c_15
          refine lv_iconst (v := (-1 : Int32)) hx hb d_M_rest_46 (by decide) ?_
          refine lv_goto (tgt := 56) hx hb d_M_rest_47 (by decide) ?_
          exact W.iret (v := (-1 : Int32)) hx hb hr (fun t ht hW => ⟨⟨(-1 : Int32), (0 : Int32), rfl, hw, by rw [ht]; exact hP, va_K.moved hW.alike hK, hD⟩, hS.F ht⟩) hS.2.2 d_M_rest_56
      · have hw := hw.2 c_8
        refine lv_iload_n hx hb d_M_rest_17 rfl (lv_at hl 1 rfl) ?_
        refine lv_if_lt (tgt := 34) hx hb d_M_rest_18 (by decide) (fun c_9 => ?_) (fun c_9 => ?_)
        · have hw := hw.1 c_9
          refine lv_iload_n hx hb d_M_rest_34 rfl (lv_at hl 0 rfl) ?_
          refine lv_istore_n (lv' := [(1, .int x2_6), (2, .int x2_6), (0, .ref (d 0))]) hx hb d_M_rest_35 rfl hl (by decide) rfl (fun ls hl => ?_)
          refine lv_iinc (v := (x2_6 + 1)) (lv' := [(2, .int (x2_6 + 1)), (1, .int x2_6), (0, .ref (d 0))]) hx hb d_M_rest_36 hl (k := 1) rfl rfl (by decide) rfl (fun ls hl => ?_)
          refine lv_goto (tgt := 9) hx hb d_M_rest_39 (by decide) ?_
          exact ih_9 x2_6 (x2_6 + 1) _ hw (lv_sub hl [0, 1, 2] rfl)
        · have hw := hw.2 c_9
          refine lv_aload_n hx hb d_M_rest_21 rfl (lv_at hl 2 rfl) ?_
          refine lv_iload_n hx hb d_M_rest_22 rfl (lv_at hl 0 rfl) ?_
          have hPc := hP
          have hDc := hD
          have hFc := va_free (wc := mW d cI cZ ((0 : Int32)) m_places m_front m_turns m_fetched m_listed m_planned m_wasExact m_shelves m_placeOf m_blockedShelf m_on m_counts m_doors m_list m_plan m_shelf m_trial) hD hS hA [0, 1, 2, 3, 4, 5, 6, 7, 8, 9] rfl
          refine vp_callSi (W.runV (As := [.int x2_6]) (rest := []) ⟨hx, hb, hml, hown, hts⟩ (c_M_sum hw) (cwV 1 hts (gV k_M_sum kw_70e012d2 kw_808ee35e kw_f8086c65 kw_98028344) rfl rfl rfl (by decide +kernel) ⟨(Nat.le_of_ble_eq_true rfl), (Nat.le_of_ble_eq_true rfl)⟩) ⟨kP.blind, va_recv hK hPc (ci := 2) (q0 := 0) rfl rfl, kP.of hK hPc hDc hZ hS hFc⟩ rfl rfl hl.1 rfl (lv_room (Nat.le_of_ble_eq_true rfl)) d_M_rest_23 ⟨(Nat.le_of_ble_eq_true rfl), (Nat.le_of_ble_eq_true rfl)⟩) (fun r_10 hw => ?_)
          refine lv_aload_n hx hb d_M_rest_26 rfl (lv_at hl 2 rfl) ?_
          refine lv_iload_n hx hb d_M_rest_27 rfl (lv_at hl 1 rfl) ?_
          have hPc := hP
          have hDc := hD
          have hFc := va_free (wc := mW d cI cZ ((0 : Int32)) m_places m_front m_turns m_fetched m_listed m_planned m_wasExact m_shelves m_placeOf m_blockedShelf m_on m_counts m_doors m_list m_plan m_shelf m_trial) hD hS hA [0, 1, 2, 3, 4, 5, 6, 7, 8, 9] rfl
          refine vp_callSi (W.runV (As := [.int x1_7]) (rest := [.int r_10]) ⟨hx, hb, hml, hown, hts⟩ (c_M_sum hw) (cwV 1 hts (gV k_M_sum kw_70e012d2 kw_808ee35e kw_f8086c65 kw_98028344) rfl rfl rfl (by decide +kernel) ⟨(Nat.le_of_ble_eq_true rfl), (Nat.le_of_ble_eq_true rfl)⟩) ⟨kP.blind, va_recv hK hPc (ci := 2) (q0 := 0) rfl rfl, kP.of hK hPc hDc hZ hS hFc⟩ rfl rfl hl.1 rfl (lv_room (Nat.le_of_ble_eq_true rfl)) d_M_rest_28 ⟨(Nat.le_of_ble_eq_true rfl), (Nat.le_of_ble_eq_true rfl)⟩) (fun r_11 hw => ?_)
          refine lv_icmp_le (tgt := 36) hx hb d_M_rest_31 (by decide) (fun c_12 => ?_) (fun c_12 => ?_)
          · have hw := hw.1 c_12
            refine lv_iinc (v := (x2_6 + 1)) (lv' := [(2, .int (x2_6 + 1)), (1, .int x1_7), (0, .ref (d 0))]) hx hb d_M_rest_36 hl (k := 0) rfl rfl (by decide) rfl (fun ls hl => ?_)
            refine lv_goto (tgt := 9) hx hb d_M_rest_39 (by decide) ?_
            exact ih_9 x1_7 (x2_6 + 1) _ hw (lv_sub hl [0, 1, 2] rfl)
          · have hw := hw.2 c_12
            refine lv_iload_n hx hb d_M_rest_34 rfl (lv_at hl 0 rfl) ?_
            refine lv_istore_n (lv' := [(1, .int x2_6), (2, .int x2_6), (0, .ref (d 0))]) hx hb d_M_rest_35 rfl hl (by decide) rfl (fun ls hl => ?_)
            refine lv_iinc (v := (x2_6 + 1)) (lv' := [(2, .int (x2_6 + 1)), (1, .int x2_6), (0, .ref (d 0))]) hx hb d_M_rest_36 hl (k := 1) rfl rfl (by decide) rfl (fun ls hl => ?_)
            refine lv_goto (tgt := 9) hx hb d_M_rest_39 (by decide) ?_
            exact ih_9 x2_6 (x2_6 + 1) _ hw (lv_sub hl [0, 1, 2] rfl)
  exact key_9 n_9 (-1 : Int32) (0 : Int32) _ hw (lv_sub hl [0, 1, 2] rfl)
def p_M_shelf (x1 : Int32) (x2 : Int32) (m_places : Int32) (m_front : Int32) (m_placeOf : Nat → Int32) (m_blockedShelf : Nat → Int32) (m_on : Nat → Int32) (m_counts : Nat → Int32) (post : Int32 → Int32 → Prop) : Prop := (p_M_none x1 m_places (fun r_1 => ((r_1 = 0 → (p_M_none x2 (5 : Int32) (fun r_3 => ((r_3 = 0 → ((¬ x2 = 0 → ((¬ x2 = (1 : Int32) → ((¬ x2 = (2 : Int32) → ((¬ x2 = (3 : Int32) → (p_M_sum x1 m_on m_counts (fun r_10 => post r_10 (0 : Int32)))) ∧ (x2 = (3 : Int32) → (vp_in x1 24 ∧ (p_M_distance (m_placeOf (x1).toNatClampNeg) m_front m_places (fun r_12 => post r_12 (0 : Int32))))))) ∧ (x2 = (2 : Int32) → (vp_in x1 24 ∧ (((m_blockedShelf (x1).toNatClampNeg) = 0 → post (0 : Int32) (0 : Int32)) ∧ (¬ (m_blockedShelf (x1).toNatClampNeg) = 0 → post (1 : Int32) (0 : Int32))))))) ∧ (x2 = (1 : Int32) → (p_M_lying x1 m_on (fun r_15 => post r_15 (0 : Int32)))))) ∧ (x2 = 0 → (vp_in x1 24 ∧ post (m_placeOf (x1).toNatClampNeg) (0 : Int32))))) ∧ (¬ r_3 = 0 → post (0 : Int32) (2 : Int32)))))) ∧ (¬ r_1 = 0 → post (0 : Int32) (1 : Int32)))))
abbrev rm_M_shelf : Room := { frames := 2, cells := 0, slots := 0, locals := 63 }
set_option maxHeartbeats 4000000 in
set_option maxRecDepth 100000 in
theorem c_M_shelf {l : Launch} {D : va_G} {sa : Nat → Nat} {cI cZ : ClassId} {sz : Nat} {d : Nat → Nat} {m_thrownCode : Int32} {m_places : Int32} {m_front : Int32} {m_turns : Int32} {m_fetched : Int32} {m_listed : Int32} {m_planned : Int32} {m_wasExact : Int32} {m_shelves : Int32} {m_placeOf : Nat → Int32} {m_blockedShelf : Nat → Int32} {m_on : Nat → Int32} {m_counts : Nat → Int32} {m_doors : Nat → Int32} {m_list : Nat → Int32} {m_plan : Nat → Int32} {m_shelf : Nat → Int32} {m_trial : Nat → Int32} {x1 : Int32} {x2 : Int32} {post : Int32 → Int32 → Prop} (hw : p_M_shelf x1 x2 m_places m_front m_placeOf m_blockedShelf m_on m_counts post) : Met l y_M_shelf w_M_shelf rm_M_shelf (va_Pc [.ref (d 0), .int x1, .int x2] (kP D sa [(cI, .int), (cZ, .boolean)] (mW d cI cZ m_thrownCode m_places m_front m_turns m_fetched m_listed m_planned m_wasExact m_shelves m_placeOf m_blockedShelf m_on m_counts m_doors m_list m_plan m_shelf m_trial) sz)) (va_Qi (fun r (u : Int32) => post r u) (fun (u : Int32) t => va_P D classes (mW d cI cZ u m_places m_front m_turns m_fetched m_listed m_planned m_wasExact m_shelves m_placeOf m_blockedShelf m_on m_counts m_doors m_list m_plan m_shelf m_trial) t.heap ∧ va_K D classes [(cI, .int), (cZ, .boolean)] t ∧ va_D (va_A (mW d cI cZ m_thrownCode m_places m_front m_turns m_fetched m_listed m_planned m_wasExact m_shelves m_placeOf m_blockedShelf m_on m_counts m_doors m_list m_plan m_shelf m_trial) sz) (mW d cI cZ u m_places m_front m_turns m_fetched m_listed m_planned m_wasExact m_shelves m_placeOf m_blockedShelf m_on m_counts m_doors m_list m_plan m_shelf m_trial)) (va_A (mW d cI cZ m_thrownCode m_places m_front m_turns m_fetched m_listed m_planned m_wasExact m_shelves m_placeOf m_blockedShelf m_on m_counts m_doors m_list m_plan m_shelf m_trial) sz)) 0 0 (va_A (mW d cI cZ m_thrownCode m_places m_front m_turns m_fetched m_listed m_planned m_wasExact m_shelves m_placeOf m_blockedShelf m_on m_counts m_doors m_list m_plan m_shelf m_trial) sz) := by
  refine Met.ofW (cc := b_M_shelf) (maxL := 3) (ret := (some .int)) (by decide) rfl ?_
  intro p e s m args below meth c s₁ B hml hv
  obtain ⟨rfl, hsz, hP, hK, hD0, hZ⟩ := hv
  have hx := B.exec
  have hb := B.bytes
  have hr := B.returns
  have hts := atoms_spec (ws := w_M_shelf) B.pre
  have hown : s.vm.findClass R_M = some m.cls := findClass_of_methodNamed B.named
  have hlocks := B.notSynchronized
  subst hsz
  have hD := hD0.self (sz := s.heap.size)
  generalize hAe : (va_A (mW d cI cZ m_thrownCode m_places m_front m_turns m_fetched m_listed m_planned m_wasExact m_shelves m_placeOf m_blockedShelf m_on m_counts m_doors m_list m_plan m_shelf m_trial) s.heap.size) = A at hD hZ ⊢
  have hA : ∀ q : Nat, s.heap.size ≤ q → A q := fun q h => by rw [← hAe]; exact Or.inr h
  have hS : va_S A s.heap s.heap [] := va_S.rf
  have hl := lv_entry ([.ref (d 0), .int x1, .int x2]) (n := 3) (Nat.le_of_ble_eq_true rfl)
  rw [lg_entry_eq]
  generalize (lg_sl ([.ref (d 0), .int x1, .int x2]) ++ List.replicate (3 - (lg_sl ([.ref (d 0), .int x1, .int x2])).length) Slot.unset).toArray = ls at hl ⊢
  have hl : lv_has ls 3 [(0, .ref (d 0)), (1, .int x1), (2, .int x2)] := hl
  refine lv_aload_n hx hb d_M_shelf_0 rfl (lv_at hl 0 rfl) ?_
  refine lv_iload_n hx hb d_M_shelf_1 rfl (lv_at hl 1 rfl) ?_
  refine lv_aload_n hx hb d_M_shelf_2 rfl (lv_at hl 0 rfl) ?_
  refine va_get (D := D) (ci := 2) (v := .int m_places) (C := R_M) (T := F_M) (N := 18) hx hb hts (iK iW_M) hown hK hP 0 rfl rfl 1 (by decide) (hts _ (kM kw_7139d127)) (fun _ h9 => h9) rfl d_M_shelf_3 ?_
  have hPc := hP.sub (ws' := []) [] rfl
  have hDc := hD.sub (ws' := []) [] (by decide) rfl
  have hFc := va_free (wc := []) hD hS hA [] rfl
  refine vp_callSi (W.runS (As := [.int x1, .int m_places]) (rest := [.ref (d 0)]) ⟨hx, hb, hml, hown, hts⟩ (c_M_none hw) (cwS 2 hts (gS k_M_none kw_344abd76 kw_8e7adc0a kw_98028344) rfl rfl rfl (by decide +kernel) ⟨(Nat.le_of_ble_eq_true rfl), (Nat.le_of_ble_eq_true rfl)⟩) ⟨kP.blind, kP.of hK hPc hDc hZ hS hFc⟩ rfl rfl hl.1 rfl (lv_room (Nat.le_of_ble_eq_true rfl)) d_M_shelf_6 ⟨(Nat.le_of_ble_eq_true rfl), (Nat.le_of_ble_eq_true rfl)⟩) (fun r_1 hw => ?_)
  refine lv_if_eq (tgt := 16) hx hb d_M_shelf_9 (by decide) (fun c_2 => ?_) (fun c_2 => ?_)
  · have hw := hw.1 c_2
    refine lv_iload_n hx hb d_M_shelf_16 rfl (lv_at hl 2 rfl) ?_
    refine lv_iconst (v := (5 : Int32)) hx hb d_M_shelf_17 (by decide) ?_
    have hPc := hP.sub (ws' := []) [] rfl
    have hDc := hD.sub (ws' := []) [] (by decide) rfl
    have hFc := va_free (wc := []) hD hS hA [] rfl
    refine vp_callSi (W.runS (As := [.int x2, .int (5 : Int32)]) (rest := [.ref (d 0)]) ⟨hx, hb, hml, hown, hts⟩ (c_M_none hw) (cwS 2 hts (gS k_M_none kw_344abd76 kw_8e7adc0a kw_98028344) rfl rfl rfl (by decide +kernel) ⟨(Nat.le_of_ble_eq_true rfl), (Nat.le_of_ble_eq_true rfl)⟩) ⟨kP.blind, kP.of hK hPc hDc hZ hS hFc⟩ rfl rfl hl.1 rfl (lv_room (Nat.le_of_ble_eq_true rfl)) d_M_shelf_18 ⟨(Nat.le_of_ble_eq_true rfl), (Nat.le_of_ble_eq_true rfl)⟩) (fun r_3 hw => ?_)
    refine lv_if_eq (tgt := 28) hx hb d_M_shelf_21 (by decide) (fun c_4 => ?_) (fun c_4 => ?_)
    · have hw := hw.1 c_4
      refine lv_iconst (v := (0 : Int32)) hx hb d_M_shelf_28 (by decide) ?_
      refine va_put (D := D) (ci := 2) (v := .int (0 : Int32)) (ty := .int) (C := R_M) (T := F_M) (N := 18) hx hb hts (iK iW_M) t_M t_M_ok n_M hown hK hP hD hS 0 rfl rfl 0 (by decide) (hts _ (kM kw_8fca7397)) (fun _ h9 => h9) rfl (by decide +kernel) rfl rfl (Nat.le_of_ble_eq_true rfl) d_M_shelf_29 (fun H locs hP hD hS => ?_)
      have hP : va_P D classes (mW d cI cZ (0 : Int32) m_places m_front m_turns m_fetched m_listed m_planned m_wasExact m_shelves m_placeOf m_blockedShelf m_on m_counts m_doors m_list m_plan m_shelf m_trial) H := hP
      have hD : va_D A (mW d cI cZ (0 : Int32) m_places m_front m_turns m_fetched m_listed m_planned m_wasExact m_shelves m_placeOf m_blockedShelf m_on m_counts m_doors m_list m_plan m_shelf m_trial) := hD
      refine lv_aload_n hx hb d_M_shelf_32 rfl (lv_at hl 0 rfl) ?_
      refine va_get (D := D) (ci := 2) (v := .int (0 : Int32)) (C := R_M) (T := F_M) (N := 18) hx hb hts (iK iW_M) hown hK hP 0 rfl rfl 0 (by decide) (hts _ (kM kw_8fca7397)) (fun _ h9 => h9) rfl d_M_shelf_33 ?_
      refine lv_if_eq (tgt := 41) hx hb d_M_shelf_36 (by decide) (fun c_5 => ?_) (fun c_5 => absurd c_5 (by decide))
      refine lv_iload_n hx hb d_M_shelf_41 rfl (lv_at hl 2 rfl) ?_
      refine lv_if_ne (tgt := 52) hx hb d_M_shelf_42 (by decide) (fun c_6 => ?_) (fun c_6 => ?_)
      · have hw := hw.1 c_6
        refine lv_iload_n hx hb d_M_shelf_52 rfl (lv_at hl 2 rfl) ?_
        refine lv_iconst (v := (1 : Int32)) hx hb d_M_shelf_53 (by decide) ?_
        refine lv_icmp_ne (tgt := 63) hx hb d_M_shelf_54 (by decide) (fun c_7 => ?_) (fun c_7 => ?_)
        · have hw := hw.1 c_7
          refine lv_iload_n hx hb d_M_shelf_63 rfl (lv_at hl 2 rfl) ?_
          refine lv_iconst (v := (2 : Int32)) hx hb d_M_shelf_64 (by decide) ?_
          refine lv_icmp_ne (tgt := 83) hx hb d_M_shelf_65 (by decide) (fun c_8 => ?_) (fun c_8 => ?_)
          · have hw := hw.1 c_8
            refine lv_iload_n hx hb d_M_shelf_83 rfl (lv_at hl 2 rfl) ?_
            refine lv_iconst (v := (3 : Int32)) hx hb d_M_shelf_84 (by decide) ?_
            refine lv_icmp_ne (tgt := 105) hx hb d_M_shelf_85 (by decide) (fun c_9 => ?_) (fun c_9 => ?_)
            · have hw := hw.1 c_9
              refine lv_aload_n hx hb d_M_shelf_105 rfl (lv_at hl 0 rfl) ?_
              refine lv_iload_n hx hb d_M_shelf_106 rfl (lv_at hl 1 rfl) ?_
              have hPc := hP
              have hDc := hD
              have hFc := va_free (wc := mW d cI cZ (0 : Int32) m_places m_front m_turns m_fetched m_listed m_planned m_wasExact m_shelves m_placeOf m_blockedShelf m_on m_counts m_doors m_list m_plan m_shelf m_trial) hD hS hA [0, 1, 2, 3, 4, 5, 6, 7, 8, 9] rfl
              refine vp_callSi (W.runV (As := [.int x1]) (rest := []) ⟨hx, hb, hml, hown, hts⟩ (c_M_sum hw) (cwV 1 hts (gV k_M_sum kw_70e012d2 kw_808ee35e kw_f8086c65 kw_98028344) rfl rfl rfl (by decide +kernel) ⟨(Nat.le_of_ble_eq_true rfl), (Nat.le_of_ble_eq_true rfl)⟩) ⟨kP.blind, va_recv hK hPc (ci := 2) (q0 := 0) rfl rfl, kP.of hK hPc hDc hZ hS hFc⟩ rfl rfl hl.1 rfl (lv_room (Nat.le_of_ble_eq_true rfl)) d_M_shelf_107 ⟨(Nat.le_of_ble_eq_true rfl), (Nat.le_of_ble_eq_true rfl)⟩) (fun r_10 hw => ?_)
              exact W.iret (v := r_10) hx hb hr (fun t ht hW => ⟨⟨r_10, (0 : Int32), rfl, hw, by rw [ht]; exact hP, va_K.moved hW.alike hK, hD⟩, hS.F ht⟩) hS.2.2 d_M_shelf_110
            · have hw := hw.2 c_9
              refine lv_aload_n hx hb d_M_shelf_88 rfl (lv_at hl 0 rfl) ?_
              refine lv_aload_n hx hb d_M_shelf_89 rfl (lv_at hl 0 rfl) ?_
              refine va_get (D := D) (ci := 2) (v := .ref (d 1)) (C := R_M) (T := F_M) (N := 18) hx hb hts (iK iW_M) hown hK hP 0 rfl rfl 3 (by decide) (hts _ (kM kw_1dda6185)) (fun _ h9 => h9) rfl d_M_shelf_90 ?_
              refine lv_iload_n hx hb d_M_shelf_93 rfl (lv_at hl 1 rfl) ?_
              obtain ⟨h_11, hw⟩ := hw
              refine va_iald hx hb hK hP 1 0 rfl rfl h_11 d_M_shelf_94 ?_
              refine lv_aload_n hx hb d_M_shelf_95 rfl (lv_at hl 0 rfl) ?_
              refine va_get (D := D) (ci := 2) (v := .int m_front) (C := R_M) (T := F_M) (N := 18) hx hb hts (iK iW_M) hown hK hP 0 rfl rfl 2 (by decide) (hts _ (kM kw_6549c401)) (fun _ h9 => h9) rfl d_M_shelf_96 ?_
              have hPc := hP
              have hDc := hD
              have hFc := va_free (wc := mW d cI cZ (0 : Int32) m_places m_front m_turns m_fetched m_listed m_planned m_wasExact m_shelves m_placeOf m_blockedShelf m_on m_counts m_doors m_list m_plan m_shelf m_trial) hD hS hA [0, 1, 2, 3, 4, 5, 6, 7, 8, 9] rfl
              refine vp_callSi (W.runV (As := [.int (m_placeOf (x1).toNatClampNeg), .int m_front]) (rest := []) ⟨hx, hb, hml, hown, hts⟩ (c_M_distance hw) (cwV 2 hts (gV k_M_distance kw_850ee39e kw_0c4e16f1 kw_70900a17 kw_98028344) rfl rfl rfl (by decide +kernel) ⟨(Nat.le_of_ble_eq_true rfl), (Nat.le_of_ble_eq_true rfl)⟩) ⟨kP.blind, va_recv hK hPc (ci := 2) (q0 := 0) rfl rfl, kP.of hK hPc hDc hZ hS hFc⟩ rfl rfl hl.1 rfl (lv_room (Nat.le_of_ble_eq_true rfl)) d_M_shelf_99 ⟨(Nat.le_of_ble_eq_true rfl), (Nat.le_of_ble_eq_true rfl)⟩) (fun r_12 hw => ?_)
              refine lv_goto (tgt := 110) hx hb d_M_shelf_102 (by decide) ?_
              exact W.iret (v := r_12) hx hb hr (fun t ht hW => ⟨⟨r_12, (0 : Int32), rfl, hw, by rw [ht]; exact hP, va_K.moved hW.alike hK, hD⟩, hS.F ht⟩) hS.2.2 d_M_shelf_110
          · have hw := hw.2 c_8
            refine lv_aload_n hx hb d_M_shelf_68 rfl (lv_at hl 0 rfl) ?_
            refine va_get (D := D) (ci := 2) (v := .ref (d 2)) (C := R_M) (T := F_M) (N := 18) hx hb hts (iK iW_M) hown hK hP 0 rfl rfl 4 (by decide) (hts _ (kM kw_f6907c18)) (fun _ h9 => h9) rfl d_M_shelf_69 ?_
            refine lv_iload_n hx hb d_M_shelf_72 rfl (lv_at hl 1 rfl) ?_
            obtain ⟨h_13, hw⟩ := hw
            refine va_zald hx hb hK hP 2 1 rfl rfl h_13 d_M_shelf_73 ?_
            refine lv_if_eq (tgt := 81) hx hb d_M_shelf_74 (by decide) (fun c_14 => ?_) (fun c_14 => ?_)
            · have hw := hw.1 c_14
              refine lv_iconst (v := (0 : Int32)) hx hb d_M_shelf_81 (by decide) ?_
              exact W.iret (v := (0 : Int32)) hx hb hr (fun t ht hW => ⟨⟨(0 : Int32), (0 : Int32), rfl, hw, by rw [ht]; exact hP, va_K.moved hW.alike hK, hD⟩, hS.F ht⟩) hS.2.2 d_M_shelf_82
            · have hw := hw.2 c_14
              refine lv_iconst (v := (1 : Int32)) hx hb d_M_shelf_77 (by decide) ?_
              refine lv_goto (tgt := 82) hx hb d_M_shelf_78 (by decide) ?_
              exact W.iret (v := (1 : Int32)) hx hb hr (fun t ht hW => ⟨⟨(1 : Int32), (0 : Int32), rfl, hw, by rw [ht]; exact hP, va_K.moved hW.alike hK, hD⟩, hS.F ht⟩) hS.2.2 d_M_shelf_82
        · have hw := hw.2 c_7
          refine lv_aload_n hx hb d_M_shelf_57 rfl (lv_at hl 0 rfl) ?_
          refine lv_iload_n hx hb d_M_shelf_58 rfl (lv_at hl 1 rfl) ?_
          have hPc := hP
          have hDc := hD
          have hFc := va_free (wc := mW d cI cZ (0 : Int32) m_places m_front m_turns m_fetched m_listed m_planned m_wasExact m_shelves m_placeOf m_blockedShelf m_on m_counts m_doors m_list m_plan m_shelf m_trial) hD hS hA [0, 1, 2, 3, 4, 5, 6, 7, 8, 9] rfl
          refine vp_callSi (W.runV (As := [.int x1]) (rest := []) ⟨hx, hb, hml, hown, hts⟩ (c_M_lying hw) (cwV 1 hts (gV k_M_lying kw_b7f6d692 kw_f4b7001a kw_67ab8fea kw_98028344) rfl rfl rfl (by decide +kernel) ⟨(Nat.le_of_ble_eq_true rfl), (Nat.le_of_ble_eq_true rfl)⟩) ⟨kP.blind, va_recv hK hPc (ci := 2) (q0 := 0) rfl rfl, kP.of hK hPc hDc hZ hS hFc⟩ rfl rfl hl.1 rfl (lv_room (Nat.le_of_ble_eq_true rfl)) d_M_shelf_59 ⟨(Nat.le_of_ble_eq_true rfl), (Nat.le_of_ble_eq_true rfl)⟩) (fun r_15 hw => ?_)
          exact W.iret (v := r_15) hx hb hr (fun t ht hW => ⟨⟨r_15, (0 : Int32), rfl, hw, by rw [ht]; exact hP, va_K.moved hW.alike hK, hD⟩, hS.F ht⟩) hS.2.2 d_M_shelf_62
      · have hw := hw.2 c_6
        refine lv_aload_n hx hb d_M_shelf_45 rfl (lv_at hl 0 rfl) ?_
        refine va_get (D := D) (ci := 2) (v := .ref (d 1)) (C := R_M) (T := F_M) (N := 18) hx hb hts (iK iW_M) hown hK hP 0 rfl rfl 3 (by decide) (hts _ (kM kw_1dda6185)) (fun _ h9 => h9) rfl d_M_shelf_46 ?_
        refine lv_iload_n hx hb d_M_shelf_49 rfl (lv_at hl 1 rfl) ?_
        obtain ⟨h_16, hw⟩ := hw
        refine va_iald hx hb hK hP 1 0 rfl rfl h_16 d_M_shelf_50 ?_
        exact W.iret (v := (m_placeOf (x1).toNatClampNeg)) hx hb hr (fun t ht hW => ⟨⟨(m_placeOf (x1).toNatClampNeg), (0 : Int32), rfl, hw, by rw [ht]; exact hP, va_K.moved hW.alike hK, hD⟩, hS.F ht⟩) hS.2.2 d_M_shelf_51
    · have hw := hw.2 c_4
      refine lv_iconst (v := (2 : Int32)) hx hb d_M_shelf_24 (by decide) ?_
      refine lv_goto (tgt := 29) hx hb d_M_shelf_25 (by decide) ?_
      refine va_put (D := D) (ci := 2) (v := .int (2 : Int32)) (ty := .int) (C := R_M) (T := F_M) (N := 18) hx hb hts (iK iW_M) t_M t_M_ok n_M hown hK hP hD hS 0 rfl rfl 0 (by decide) (hts _ (kM kw_8fca7397)) (fun _ h9 => h9) rfl (by decide +kernel) rfl rfl (Nat.le_of_ble_eq_true rfl) d_M_shelf_29 (fun H locs hP hD hS => ?_)
      have hP : va_P D classes (mW d cI cZ (2 : Int32) m_places m_front m_turns m_fetched m_listed m_planned m_wasExact m_shelves m_placeOf m_blockedShelf m_on m_counts m_doors m_list m_plan m_shelf m_trial) H := hP
      have hD : va_D A (mW d cI cZ (2 : Int32) m_places m_front m_turns m_fetched m_listed m_planned m_wasExact m_shelves m_placeOf m_blockedShelf m_on m_counts m_doors m_list m_plan m_shelf m_trial) := hD
      refine lv_aload_n hx hb d_M_shelf_32 rfl (lv_at hl 0 rfl) ?_
      refine va_get (D := D) (ci := 2) (v := .int (2 : Int32)) (C := R_M) (T := F_M) (N := 18) hx hb hts (iK iW_M) hown hK hP 0 rfl rfl 0 (by decide) (hts _ (kM kw_8fca7397)) (fun _ h9 => h9) rfl d_M_shelf_33 ?_
      refine lv_if_eq (tgt := 41) hx hb d_M_shelf_36 (by decide) (fun c_17 => absurd c_17 (by decide)) (fun c_17 => ?_)
      refine lv_iconst (v := (0 : Int32)) hx hb d_M_shelf_39 (by decide) ?_
      exact W.iret (v := (0 : Int32)) hx hb hr (fun t ht hW => ⟨⟨(0 : Int32), (2 : Int32), rfl, hw, by rw [ht]; exact hP, va_K.moved hW.alike hK, hD⟩, hS.F ht⟩) hS.2.2 d_M_shelf_40
  · have hw := hw.2 c_2
    refine lv_iconst (v := (1 : Int32)) hx hb d_M_shelf_12 (by decide) ?_
    refine lv_goto (tgt := 29) hx hb d_M_shelf_13 (by decide) ?_
    refine va_put (D := D) (ci := 2) (v := .int (1 : Int32)) (ty := .int) (C := R_M) (T := F_M) (N := 18) hx hb hts (iK iW_M) t_M t_M_ok n_M hown hK hP hD hS 0 rfl rfl 0 (by decide) (hts _ (kM kw_8fca7397)) (fun _ h9 => h9) rfl (by decide +kernel) rfl rfl (Nat.le_of_ble_eq_true rfl) d_M_shelf_29 (fun H locs hP hD hS => ?_)
    have hP : va_P D classes (mW d cI cZ (1 : Int32) m_places m_front m_turns m_fetched m_listed m_planned m_wasExact m_shelves m_placeOf m_blockedShelf m_on m_counts m_doors m_list m_plan m_shelf m_trial) H := hP
    have hD : va_D A (mW d cI cZ (1 : Int32) m_places m_front m_turns m_fetched m_listed m_planned m_wasExact m_shelves m_placeOf m_blockedShelf m_on m_counts m_doors m_list m_plan m_shelf m_trial) := hD
    refine lv_aload_n hx hb d_M_shelf_32 rfl (lv_at hl 0 rfl) ?_
    refine va_get (D := D) (ci := 2) (v := .int (1 : Int32)) (C := R_M) (T := F_M) (N := 18) hx hb hts (iK iW_M) hown hK hP 0 rfl rfl 0 (by decide) (hts _ (kM kw_8fca7397)) (fun _ h9 => h9) rfl d_M_shelf_33 ?_
    refine lv_if_eq (tgt := 41) hx hb d_M_shelf_36 (by decide) (fun c_18 => absurd c_18 (by decide)) (fun c_18 => ?_)
    refine lv_iconst (v := (0 : Int32)) hx hb d_M_shelf_39 (by decide) ?_
    exact W.iret (v := (0 : Int32)) hx hb hr (fun t ht hW => ⟨⟨(0 : Int32), (1 : Int32), rfl, hw, by rw [ht]; exact hP, va_K.moved hW.alike hK, hD⟩, hS.F ht⟩) hS.2.2 d_M_shelf_40
def p_M_unit (x1 : Int32) (m_on : Nat → Int32) (post : Int32 → Int32 → Prop) : Prop := (p_M_none x1 (20 : Int32) (fun r_1 => ((r_1 = 0 → (vp_in x1 20 ∧ post (m_on (x1).toNatClampNeg) (0 : Int32))) ∧ (¬ r_1 = 0 → post (0 : Int32) (1 : Int32)))))
abbrev rm_M_unit : Room := { frames := 2, cells := 0, slots := 0, locals := 61 }
set_option maxHeartbeats 4000000 in
set_option maxRecDepth 100000 in
theorem c_M_unit {l : Launch} {D : va_G} {sa : Nat → Nat} {cI cZ : ClassId} {sz : Nat} {d : Nat → Nat} {m_thrownCode : Int32} {m_places : Int32} {m_front : Int32} {m_turns : Int32} {m_fetched : Int32} {m_listed : Int32} {m_planned : Int32} {m_wasExact : Int32} {m_shelves : Int32} {m_placeOf : Nat → Int32} {m_blockedShelf : Nat → Int32} {m_on : Nat → Int32} {m_counts : Nat → Int32} {m_doors : Nat → Int32} {m_list : Nat → Int32} {m_plan : Nat → Int32} {m_shelf : Nat → Int32} {m_trial : Nat → Int32} {x1 : Int32} {post : Int32 → Int32 → Prop} (hw : p_M_unit x1 m_on post) : Met l y_M_unit w_M_unit rm_M_unit (va_Pc [.ref (d 0), .int x1] (kP D sa [(cI, .int), (cZ, .boolean)] (mW d cI cZ m_thrownCode m_places m_front m_turns m_fetched m_listed m_planned m_wasExact m_shelves m_placeOf m_blockedShelf m_on m_counts m_doors m_list m_plan m_shelf m_trial) sz)) (va_Qi (fun r (u : Int32) => post r u) (fun (u : Int32) t => va_P D classes (mW d cI cZ u m_places m_front m_turns m_fetched m_listed m_planned m_wasExact m_shelves m_placeOf m_blockedShelf m_on m_counts m_doors m_list m_plan m_shelf m_trial) t.heap ∧ va_K D classes [(cI, .int), (cZ, .boolean)] t ∧ va_D (va_A (mW d cI cZ m_thrownCode m_places m_front m_turns m_fetched m_listed m_planned m_wasExact m_shelves m_placeOf m_blockedShelf m_on m_counts m_doors m_list m_plan m_shelf m_trial) sz) (mW d cI cZ u m_places m_front m_turns m_fetched m_listed m_planned m_wasExact m_shelves m_placeOf m_blockedShelf m_on m_counts m_doors m_list m_plan m_shelf m_trial)) (va_A (mW d cI cZ m_thrownCode m_places m_front m_turns m_fetched m_listed m_planned m_wasExact m_shelves m_placeOf m_blockedShelf m_on m_counts m_doors m_list m_plan m_shelf m_trial) sz)) 0 0 (va_A (mW d cI cZ m_thrownCode m_places m_front m_turns m_fetched m_listed m_planned m_wasExact m_shelves m_placeOf m_blockedShelf m_on m_counts m_doors m_list m_plan m_shelf m_trial) sz) := by
  refine Met.ofW (cc := b_M_unit) (maxL := 2) (ret := (some .int)) (by decide) rfl ?_
  intro p e s m args below meth c s₁ B hml hv
  obtain ⟨rfl, hsz, hP, hK, hD0, hZ⟩ := hv
  have hx := B.exec
  have hb := B.bytes
  have hr := B.returns
  have hts := atoms_spec (ws := w_M_unit) B.pre
  have hown : s.vm.findClass R_M = some m.cls := findClass_of_methodNamed B.named
  have hlocks := B.notSynchronized
  subst hsz
  have hD := hD0.self (sz := s.heap.size)
  generalize hAe : (va_A (mW d cI cZ m_thrownCode m_places m_front m_turns m_fetched m_listed m_planned m_wasExact m_shelves m_placeOf m_blockedShelf m_on m_counts m_doors m_list m_plan m_shelf m_trial) s.heap.size) = A at hD hZ ⊢
  have hA : ∀ q : Nat, s.heap.size ≤ q → A q := fun q h => by rw [← hAe]; exact Or.inr h
  have hS : va_S A s.heap s.heap [] := va_S.rf
  have hl := lv_entry ([.ref (d 0), .int x1]) (n := 2) (Nat.le_of_ble_eq_true rfl)
  rw [lg_entry_eq]
  generalize (lg_sl ([.ref (d 0), .int x1]) ++ List.replicate (2 - (lg_sl ([.ref (d 0), .int x1])).length) Slot.unset).toArray = ls at hl ⊢
  have hl : lv_has ls 2 [(0, .ref (d 0)), (1, .int x1)] := hl
  refine lv_aload_n hx hb d_M_unit_0 rfl (lv_at hl 0 rfl) ?_
  refine lv_iload_n hx hb d_M_unit_1 rfl (lv_at hl 1 rfl) ?_
  refine lv_bipush (v := (20 : Int32)) hx hb d_M_unit_2 (by decide) ?_
  have hPc := hP.sub (ws' := []) [] rfl
  have hDc := hD.sub (ws' := []) [] (by decide) rfl
  have hFc := va_free (wc := []) hD hS hA [] rfl
  refine vp_callSi (W.runS (As := [.int x1, .int (20 : Int32)]) (rest := [.ref (d 0)]) ⟨hx, hb, hml, hown, hts⟩ (c_M_none hw) (cwS 2 hts (gS k_M_none kw_344abd76 kw_8e7adc0a kw_98028344) rfl rfl rfl (by decide +kernel) ⟨(Nat.le_of_ble_eq_true rfl), (Nat.le_of_ble_eq_true rfl)⟩) ⟨kP.blind, kP.of hK hPc hDc hZ hS hFc⟩ rfl rfl hl.1 rfl (lv_room (Nat.le_of_ble_eq_true rfl)) d_M_unit_4 ⟨(Nat.le_of_ble_eq_true rfl), (Nat.le_of_ble_eq_true rfl)⟩) (fun r_1 hw => ?_)
  refine lv_if_eq (tgt := 14) hx hb d_M_unit_7 (by decide) (fun c_2 => ?_) (fun c_2 => ?_)
  · have hw := hw.1 c_2
    refine lv_iconst (v := (0 : Int32)) hx hb d_M_unit_14 (by decide) ?_
    refine va_put (D := D) (ci := 2) (v := .int (0 : Int32)) (ty := .int) (C := R_M) (T := F_M) (N := 18) hx hb hts (iK iW_M) t_M t_M_ok n_M hown hK hP hD hS 0 rfl rfl 0 (by decide) (hts _ (kM kw_8fca7397)) (fun _ h9 => h9) rfl (by decide +kernel) rfl rfl (Nat.le_of_ble_eq_true rfl) d_M_unit_15 (fun H locs hP hD hS => ?_)
    have hP : va_P D classes (mW d cI cZ (0 : Int32) m_places m_front m_turns m_fetched m_listed m_planned m_wasExact m_shelves m_placeOf m_blockedShelf m_on m_counts m_doors m_list m_plan m_shelf m_trial) H := hP
    have hD : va_D A (mW d cI cZ (0 : Int32) m_places m_front m_turns m_fetched m_listed m_planned m_wasExact m_shelves m_placeOf m_blockedShelf m_on m_counts m_doors m_list m_plan m_shelf m_trial) := hD
    refine lv_aload_n hx hb d_M_unit_18 rfl (lv_at hl 0 rfl) ?_
    refine va_get (D := D) (ci := 2) (v := .int (0 : Int32)) (C := R_M) (T := F_M) (N := 18) hx hb hts (iK iW_M) hown hK hP 0 rfl rfl 0 (by decide) (hts _ (kM kw_8fca7397)) (fun _ h9 => h9) rfl d_M_unit_19 ?_
    refine lv_if_eq (tgt := 29) hx hb d_M_unit_22 (by decide) (fun c_3 => ?_) (fun c_3 => absurd c_3 (by decide))
    refine lv_aload_n hx hb d_M_unit_29 rfl (lv_at hl 0 rfl) ?_
    refine va_get (D := D) (ci := 2) (v := .ref (d 3)) (C := R_M) (T := F_M) (N := 18) hx hb hts (iK iW_M) hown hK hP 0 rfl rfl 5 (by decide) (hts _ (kM kw_7ca6b28c)) (fun _ h9 => h9) rfl d_M_unit_30 ?_
    refine lv_iload_n hx hb d_M_unit_33 rfl (lv_at hl 1 rfl) ?_
    obtain ⟨h_4, hw⟩ := hw
    refine va_iald hx hb hK hP 3 0 rfl rfl h_4 d_M_unit_34 ?_
    exact W.iret (v := (m_on (x1).toNatClampNeg)) hx hb hr (fun t ht hW => ⟨⟨(m_on (x1).toNatClampNeg), (0 : Int32), rfl, hw, by rw [ht]; exact hP, va_K.moved hW.alike hK, hD⟩, hS.F ht⟩) hS.2.2 d_M_unit_35
  · have hw := hw.2 c_2
    refine lv_iconst (v := (1 : Int32)) hx hb d_M_unit_10 (by decide) ?_
    refine lv_goto (tgt := 15) hx hb d_M_unit_11 (by decide) ?_
    refine va_put (D := D) (ci := 2) (v := .int (1 : Int32)) (ty := .int) (C := R_M) (T := F_M) (N := 18) hx hb hts (iK iW_M) t_M t_M_ok n_M hown hK hP hD hS 0 rfl rfl 0 (by decide) (hts _ (kM kw_8fca7397)) (fun _ h9 => h9) rfl (by decide +kernel) rfl rfl (Nat.le_of_ble_eq_true rfl) d_M_unit_15 (fun H locs hP hD hS => ?_)
    have hP : va_P D classes (mW d cI cZ (1 : Int32) m_places m_front m_turns m_fetched m_listed m_planned m_wasExact m_shelves m_placeOf m_blockedShelf m_on m_counts m_doors m_list m_plan m_shelf m_trial) H := hP
    have hD : va_D A (mW d cI cZ (1 : Int32) m_places m_front m_turns m_fetched m_listed m_planned m_wasExact m_shelves m_placeOf m_blockedShelf m_on m_counts m_doors m_list m_plan m_shelf m_trial) := hD
    refine lv_aload_n hx hb d_M_unit_18 rfl (lv_at hl 0 rfl) ?_
    refine va_get (D := D) (ci := 2) (v := .int (1 : Int32)) (C := R_M) (T := F_M) (N := 18) hx hb hts (iK iW_M) hown hK hP 0 rfl rfl 0 (by decide) (hts _ (kM kw_8fca7397)) (fun _ h9 => h9) rfl d_M_unit_19 ?_
    refine lv_if_eq (tgt := 29) hx hb d_M_unit_22 (by decide) (fun c_5 => absurd c_5 (by decide)) (fun c_5 => ?_)
    refine lv_iconst (v := (0 : Int32)) hx hb d_M_unit_25 (by decide) ?_
    refine lv_goto (tgt := 35) hx hb d_M_unit_26 (by decide) ?_
    exact W.iret (v := (0 : Int32)) hx hb hr (fun t ht hW => ⟨⟨(0 : Int32), (1 : Int32), rfl, hw, by rw [ht]; exact hP, va_K.moved hW.alike hK, hD⟩, hS.F ht⟩) hS.2.2 d_M_unit_35
def p_M_count_L9_B (m_on : Nat → Int32) (K_9 : Int32 → Int32 → Prop) (rec_9 : Int32 → Int32 → Prop) (x2_9 : Int32) (x3_9 : Int32) : Prop := (((20 : Int32) ≤ x3_9 → K_9 x2_9 x3_9) ∧ (¬ (20 : Int32) ≤ x3_9 → (vp_in x3_9 20 ∧ (((m_on (x3_9).toNatClampNeg) < 0 → rec_9 (x2_9 + (0 : Int32)) (x3_9 + 1)) ∧ (¬ (m_on (x3_9).toNatClampNeg) < 0 → rec_9 (x2_9 + (1 : Int32)) (x3_9 + 1))))))
def p_M_count_L9 (m_on : Nat → Int32) (K_9 : Int32 → Int32 → Prop) : Nat → Int32 → Int32 → Prop
  | 0 => fun _ _ => False
  | n + 1 => p_M_count_L9_B m_on K_9 (p_M_count_L9 m_on K_9 n)
def p_M_count (x1 : Int32) (m_places : Int32) (m_front : Int32) (m_turns : Int32) (m_fetched : Int32) (m_listed : Int32) (m_on : Nat → Int32) (post : Int32 → Int32 → Prop) : Prop := (∃ n, p_M_count_L9 m_on (fun (k_9 : Int32) (k_10 : Int32) => ((¬ x1 = 0 → ((¬ x1 = (1 : Int32) → ((¬ x1 = (2 : Int32) → ((¬ x1 = (3 : Int32) → ((¬ x1 = (4 : Int32) → ((¬ x1 = (5 : Int32) → post (-1 : Int32) (0 : Int32)) ∧ (x1 = (5 : Int32) → post m_fetched (0 : Int32)))) ∧ (x1 = (4 : Int32) → post m_listed (0 : Int32)))) ∧ (x1 = (3 : Int32) → post k_9 (0 : Int32)))) ∧ (x1 = (2 : Int32) → post m_turns (0 : Int32)))) ∧ (x1 = (1 : Int32) → ((¬ m_places = 0 → post m_front (0 : Int32)) ∧ (m_places = 0 → post (-1 : Int32) (0 : Int32)))))) ∧ (x1 = 0 → post m_places (0 : Int32)))) n (0 : Int32) (0 : Int32))
abbrev rm_M_count : Room := { frames := 1, cells := 0, slots := 0, locals := 40 }
set_option maxHeartbeats 4000000 in
set_option maxRecDepth 100000 in
theorem c_M_count {l : Launch} {D : va_G} {sa : Nat → Nat} {cI cZ : ClassId} {sz : Nat} {d : Nat → Nat} {m_thrownCode : Int32} {m_places : Int32} {m_front : Int32} {m_turns : Int32} {m_fetched : Int32} {m_listed : Int32} {m_planned : Int32} {m_wasExact : Int32} {m_shelves : Int32} {m_placeOf : Nat → Int32} {m_blockedShelf : Nat → Int32} {m_on : Nat → Int32} {m_counts : Nat → Int32} {m_doors : Nat → Int32} {m_list : Nat → Int32} {m_plan : Nat → Int32} {m_shelf : Nat → Int32} {m_trial : Nat → Int32} {x1 : Int32} {post : Int32 → Int32 → Prop} (hw : p_M_count x1 m_places m_front m_turns m_fetched m_listed m_on post) : Met l y_M_count w_M_count rm_M_count (va_Pc [.ref (d 0), .int x1] (kP D sa [(cI, .int), (cZ, .boolean)] (mW d cI cZ m_thrownCode m_places m_front m_turns m_fetched m_listed m_planned m_wasExact m_shelves m_placeOf m_blockedShelf m_on m_counts m_doors m_list m_plan m_shelf m_trial) sz)) (va_Qi (fun r (u : Int32) => post r u) (fun (u : Int32) t => va_P D classes (mW d cI cZ u m_places m_front m_turns m_fetched m_listed m_planned m_wasExact m_shelves m_placeOf m_blockedShelf m_on m_counts m_doors m_list m_plan m_shelf m_trial) t.heap ∧ va_K D classes [(cI, .int), (cZ, .boolean)] t ∧ va_D (va_A (mW d cI cZ m_thrownCode m_places m_front m_turns m_fetched m_listed m_planned m_wasExact m_shelves m_placeOf m_blockedShelf m_on m_counts m_doors m_list m_plan m_shelf m_trial) sz) (mW d cI cZ u m_places m_front m_turns m_fetched m_listed m_planned m_wasExact m_shelves m_placeOf m_blockedShelf m_on m_counts m_doors m_list m_plan m_shelf m_trial)) (va_A (mW d cI cZ m_thrownCode m_places m_front m_turns m_fetched m_listed m_planned m_wasExact m_shelves m_placeOf m_blockedShelf m_on m_counts m_doors m_list m_plan m_shelf m_trial) sz)) 0 0 (va_A (mW d cI cZ m_thrownCode m_places m_front m_turns m_fetched m_listed m_planned m_wasExact m_shelves m_placeOf m_blockedShelf m_on m_counts m_doors m_list m_plan m_shelf m_trial) sz) := by
  refine Met.ofW (cc := b_M_count) (maxL := 4) (ret := (some .int)) (by decide) rfl ?_
  intro p e s m args below meth c s₁ B hml hv
  obtain ⟨rfl, hsz, hP, hK, hD0, hZ⟩ := hv
  have hx := B.exec
  have hb := B.bytes
  have hr := B.returns
  have hts := atoms_spec (ws := w_M_count) B.pre
  have hown : s.vm.findClass R_M = some m.cls := findClass_of_methodNamed B.named
  have hlocks := B.notSynchronized
  subst hsz
  have hD := hD0.self (sz := s.heap.size)
  generalize hAe : (va_A (mW d cI cZ m_thrownCode m_places m_front m_turns m_fetched m_listed m_planned m_wasExact m_shelves m_placeOf m_blockedShelf m_on m_counts m_doors m_list m_plan m_shelf m_trial) s.heap.size) = A at hD hZ ⊢
  have hA : ∀ q : Nat, s.heap.size ≤ q → A q := fun q h => by rw [← hAe]; exact Or.inr h
  have hS : va_S A s.heap s.heap [] := va_S.rf
  have hl := lv_entry ([.ref (d 0), .int x1]) (n := 4) (Nat.le_of_ble_eq_true rfl)
  rw [lg_entry_eq]
  generalize (lg_sl ([.ref (d 0), .int x1]) ++ List.replicate (4 - (lg_sl ([.ref (d 0), .int x1])).length) Slot.unset).toArray = ls at hl ⊢
  have hl : lv_has ls 4 [(0, .ref (d 0)), (1, .int x1)] := hl
  refine lv_aload_n hx hb d_M_count_0 rfl (lv_at hl 0 rfl) ?_
  refine lv_iconst (v := (0 : Int32)) hx hb d_M_count_1 (by decide) ?_
  refine va_put (D := D) (ci := 2) (v := .int (0 : Int32)) (ty := .int) (C := R_M) (T := F_M) (N := 18) hx hb hts (iK iW_M) t_M t_M_ok n_M hown hK hP hD hS 0 rfl rfl 0 (by decide) (hts _ (kM kw_8fca7397)) (fun _ h9 => h9) rfl (by decide +kernel) rfl rfl (Nat.le_of_ble_eq_true rfl) d_M_count_2 (fun H locs hP hD hS => ?_)
  have hP : va_P D classes (mW d cI cZ (0 : Int32) m_places m_front m_turns m_fetched m_listed m_planned m_wasExact m_shelves m_placeOf m_blockedShelf m_on m_counts m_doors m_list m_plan m_shelf m_trial) H := hP
  have hD : va_D A (mW d cI cZ (0 : Int32) m_places m_front m_turns m_fetched m_listed m_planned m_wasExact m_shelves m_placeOf m_blockedShelf m_on m_counts m_doors m_list m_plan m_shelf m_trial) := hD
  refine lv_iconst (v := (0 : Int32)) hx hb d_M_count_5 (by decide) ?_
  refine lv_istore_n (lv' := [(2, .int (0 : Int32)), (0, .ref (d 0)), (1, .int x1)]) hx hb d_M_count_6 rfl hl (by decide) rfl (fun ls hl => ?_)
  refine lv_iconst (v := (0 : Int32)) hx hb d_M_count_7 (by decide) ?_
  refine lv_istore_n (lv' := [(3, .int (0 : Int32)), (2, .int (0 : Int32)), (0, .ref (d 0)), (1, .int x1)]) hx hb d_M_count_8 rfl hl (by decide) rfl (fun ls hl => ?_)
  obtain ⟨K_9, hK_9⟩ : ∃ z : Int32 → Int32 → Prop, z = (fun (k_9 : Int32) (k_10 : Int32) => ((¬ x1 = 0 → ((¬ x1 = (1 : Int32) → ((¬ x1 = (2 : Int32) → ((¬ x1 = (3 : Int32) → ((¬ x1 = (4 : Int32) → ((¬ x1 = (5 : Int32) → post (-1 : Int32) (0 : Int32)) ∧ (x1 = (5 : Int32) → post m_fetched (0 : Int32)))) ∧ (x1 = (4 : Int32) → post m_listed (0 : Int32)))) ∧ (x1 = (3 : Int32) → post k_9 (0 : Int32)))) ∧ (x1 = (2 : Int32) → post m_turns (0 : Int32)))) ∧ (x1 = (1 : Int32) → ((¬ m_places = 0 → post m_front (0 : Int32)) ∧ (m_places = 0 → post (-1 : Int32) (0 : Int32)))))) ∧ (x1 = 0 → post m_places (0 : Int32)))) := ⟨_, rfl⟩
  have hw : ∃ n, p_M_count_L9 m_on K_9 n (0 : Int32) (0 : Int32) := by rw [hK_9]; exact hw
  obtain ⟨n_9, hw⟩ := hw
  have key_9 : ∀ (n : Nat) (x2_5 : Int32) (x3_4 : Int32) (ls : Array Slot), p_M_count_L9 m_on K_9 n x2_5 x3_4 → lv_has ls 4 [(3, .int x3_4), (2, .int x2_5), (0, .ref (d 0)), (1, .int x1)] → W p l e (headSpec w_M_count rm_M_count).room s m ([.ref (d 0), .int x1] : List Value).toArray below meth c H locs 0 0 (MQ below (va_Qi (fun r (u : Int32) => post r u) (fun (u : Int32) t => va_P D classes (mW d cI cZ u m_places m_front m_turns m_fetched m_listed m_planned m_wasExact m_shelves m_placeOf m_blockedShelf m_on m_counts m_doors m_list m_plan m_shelf m_trial) t.heap ∧ va_K D classes [(cI, .int), (cZ, .boolean)] t ∧ va_D A (mW d cI cZ u m_places m_front m_turns m_fetched m_listed m_planned m_wasExact m_shelves m_placeOf m_blockedShelf m_on m_counts m_doors m_list m_plan m_shelf m_trial)) A) ([.ref (d 0), .int x1] : List Value).toArray s 0 0 A) (F0 m 9 ls []) := by
    intro n
    induction n with
    | zero => intro x2_5 x3_4 ls hw hl; exact hw.elim
    | succ n ih_9 =>
      intro x2_5 x3_4 ls hw hl
      have hw : p_M_count_L9_B m_on K_9 (p_M_count_L9 m_on K_9 n) x2_5 x3_4 := hw
      generalize p_M_count_L9 m_on K_9 n = rec_9 at hw ih_9
      refine lv_iload_n hx hb d_M_count_9 rfl (lv_at hl 0 rfl) ?_
      refine lv_bipush (v := (20 : Int32)) hx hb d_M_count_10 (by decide) ?_
      refine lv_icmp_ge (tgt := 38) hx hb d_M_count_12 (by decide) (fun c_6 => ?_) (fun c_6 => ?_)
      · have hw := hw.1 c_6
        rw [hK_9] at hw
        have hl : lv_has ls 4 [(3, .int x3_4), (2, .int x2_5), (0, .ref (d 0)), (1, .int x1)] := lv_sub hl [0, 1, 2, 3] rfl
        refine lv_iload_n hx hb d_M_count_38 rfl (lv_at hl 3 rfl) ?_
        refine lv_if_ne (tgt := 49) hx hb d_M_count_39 (by decide) (fun c_11 => ?_) (fun c_11 => ?_)
        · have hw := hw.1 c_11
          refine lv_iload_n hx hb d_M_count_49 rfl (lv_at hl 3 rfl) ?_
          refine lv_iconst (v := (1 : Int32)) hx hb d_M_count_50 (by decide) ?_
          refine lv_icmp_ne (tgt := 72) hx hb d_M_count_51 (by decide) (fun c_12 => ?_) (fun c_12 => ?_)
          · have hw := hw.1 c_12
            refine lv_iload_n hx hb d_M_count_72 rfl (lv_at hl 3 rfl) ?_
            refine lv_iconst (v := (2 : Int32)) hx hb d_M_count_73 (by decide) ?_
            refine lv_icmp_ne (tgt := 84) hx hb d_M_count_74 (by decide) (fun c_13 => ?_) (fun c_13 => ?_)
            · have hw := hw.1 c_13
              refine lv_iload_n hx hb d_M_count_84 rfl (lv_at hl 3 rfl) ?_
              refine lv_iconst (v := (3 : Int32)) hx hb d_M_count_85 (by decide) ?_
              refine lv_icmp_ne (tgt := 93) hx hb d_M_count_86 (by decide) (fun c_14 => ?_) (fun c_14 => ?_)
              · have hw := hw.1 c_14
                refine lv_iload_n hx hb d_M_count_93 rfl (lv_at hl 3 rfl) ?_
                refine lv_iconst (v := (4 : Int32)) hx hb d_M_count_94 (by decide) ?_
                refine lv_icmp_ne (tgt := 105) hx hb d_M_count_95 (by decide) (fun c_15 => ?_) (fun c_15 => ?_)
                · have hw := hw.1 c_15
                  refine lv_iload_n hx hb d_M_count_105 rfl (lv_at hl 3 rfl) ?_
                  refine lv_iconst (v := (5 : Int32)) hx hb d_M_count_106 (by decide) ?_
                  refine lv_icmp_ne (tgt := 117) hx hb d_M_count_107 (by decide) (fun c_16 => ?_) (fun c_16 => ?_)
                  · have hw := hw.1 c_16
                    refine lv_iconst (v := (-1 : Int32)) hx hb d_M_count_117 (by decide) ?_
                    exact W.iret (v := (-1 : Int32)) hx hb hr (fun t ht hW => ⟨⟨(-1 : Int32), (0 : Int32), rfl, hw, by rw [ht]; exact hP, va_K.moved hW.alike hK, hD⟩, hS.F ht⟩) hS.2.2 d_M_count_118
                  · have hw := hw.2 c_16
                    refine lv_aload_n hx hb d_M_count_110 rfl (lv_at hl 2 rfl) ?_
                    refine va_get (D := D) (ci := 2) (v := .int m_fetched) (C := R_M) (T := F_M) (N := 18) hx hb hts (iK iW_M) hown hK hP 0 rfl rfl 9 (by decide) (hts _ (kM kw_1cf9ce30)) (fun _ h9 => h9) rfl d_M_count_111 ?_
                    refine lv_goto (tgt := 118) hx hb d_M_count_114 (by decide) ?_
                    exact W.iret (v := m_fetched) hx hb hr (fun t ht hW => ⟨⟨m_fetched, (0 : Int32), rfl, hw, by rw [ht]; exact hP, va_K.moved hW.alike hK, hD⟩, hS.F ht⟩) hS.2.2 d_M_count_118
                · have hw := hw.2 c_15
                  refine lv_aload_n hx hb d_M_count_98 rfl (lv_at hl 2 rfl) ?_
                  refine va_get (D := D) (ci := 2) (v := .int m_listed) (C := R_M) (T := F_M) (N := 18) hx hb hts (iK iW_M) hown hK hP 0 rfl rfl 10 (by decide) (hts _ (kM kw_e21e5c24)) (fun _ h9 => h9) rfl d_M_count_99 ?_
                  refine lv_goto (tgt := 118) hx hb d_M_count_102 (by decide) ?_
                  exact W.iret (v := m_listed) hx hb hr (fun t ht hW => ⟨⟨m_listed, (0 : Int32), rfl, hw, by rw [ht]; exact hP, va_K.moved hW.alike hK, hD⟩, hS.F ht⟩) hS.2.2 d_M_count_118
              · have hw := hw.2 c_14
                refine lv_iload_n hx hb d_M_count_89 rfl (lv_at hl 1 rfl) ?_
                refine lv_goto (tgt := 118) hx hb d_M_count_90 (by decide) ?_
                exact W.iret (v := x2_5) hx hb hr (fun t ht hW => ⟨⟨x2_5, (0 : Int32), rfl, hw, by rw [ht]; exact hP, va_K.moved hW.alike hK, hD⟩, hS.F ht⟩) hS.2.2 d_M_count_118
            · have hw := hw.2 c_13
              refine lv_aload_n hx hb d_M_count_77 rfl (lv_at hl 2 rfl) ?_
              refine va_get (D := D) (ci := 2) (v := .int m_turns) (C := R_M) (T := F_M) (N := 18) hx hb hts (iK iW_M) hown hK hP 0 rfl rfl 8 (by decide) (hts _ (kM kw_eb9287c1)) (fun _ h9 => h9) rfl d_M_count_78 ?_
              refine lv_goto (tgt := 118) hx hb d_M_count_81 (by decide) ?_
              exact W.iret (v := m_turns) hx hb hr (fun t ht hW => ⟨⟨m_turns, (0 : Int32), rfl, hw, by rw [ht]; exact hP, va_K.moved hW.alike hK, hD⟩, hS.F ht⟩) hS.2.2 d_M_count_118
          · have hw := hw.2 c_12
            refine lv_aload_n hx hb d_M_count_54 rfl (lv_at hl 2 rfl) ?_
            refine va_get (D := D) (ci := 2) (v := .int m_places) (C := R_M) (T := F_M) (N := 18) hx hb hts (iK iW_M) hown hK hP 0 rfl rfl 1 (by decide) (hts _ (kM kw_7139d127)) (fun _ h9 => h9) rfl d_M_count_55 ?_
            refine lv_if_ne (tgt := 65) hx hb d_M_count_58 (by decide) (fun c_17 => ?_) (fun c_17 => ?_)
            · have hw := hw.1 c_17
              refine lv_aload_n hx hb d_M_count_65 rfl (lv_at hl 2 rfl) ?_
              refine va_get (D := D) (ci := 2) (v := .int m_front) (C := R_M) (T := F_M) (N := 18) hx hb hts (iK iW_M) hown hK hP 0 rfl rfl 2 (by decide) (hts _ (kM kw_6549c401)) (fun _ h9 => h9) rfl d_M_count_66 ?_
              refine lv_goto (tgt := 118) hx hb d_M_count_69 (by decide) ?_
              exact W.iret (v := m_front) hx hb hr (fun t ht hW => ⟨⟨m_front, (0 : Int32), rfl, hw, by rw [ht]; exact hP, va_K.moved hW.alike hK, hD⟩, hS.F ht⟩) hS.2.2 d_M_count_118
            · have hw := hw.2 c_17
              refine lv_iconst (v := (-1 : Int32)) hx hb d_M_count_61 (by decide) ?_
              refine lv_goto (tgt := 118) hx hb d_M_count_62 (by decide) ?_
              exact W.iret (v := (-1 : Int32)) hx hb hr (fun t ht hW => ⟨⟨(-1 : Int32), (0 : Int32), rfl, hw, by rw [ht]; exact hP, va_K.moved hW.alike hK, hD⟩, hS.F ht⟩) hS.2.2 d_M_count_118
        · have hw := hw.2 c_11
          refine lv_aload_n hx hb d_M_count_42 rfl (lv_at hl 2 rfl) ?_
          refine va_get (D := D) (ci := 2) (v := .int m_places) (C := R_M) (T := F_M) (N := 18) hx hb hts (iK iW_M) hown hK hP 0 rfl rfl 1 (by decide) (hts _ (kM kw_7139d127)) (fun _ h9 => h9) rfl d_M_count_43 ?_
          refine lv_goto (tgt := 118) hx hb d_M_count_46 (by decide) ?_
          exact W.iret (v := m_places) hx hb hr (fun t ht hW => ⟨⟨m_places, (0 : Int32), rfl, hw, by rw [ht]; exact hP, va_K.moved hW.alike hK, hD⟩, hS.F ht⟩) hS.2.2 d_M_count_118
      · have hw := hw.2 c_6
        refine lv_iload_n hx hb d_M_count_15 rfl (lv_at hl 1 rfl) ?_
        refine lv_aload_n hx hb d_M_count_16 rfl (lv_at hl 2 rfl) ?_
        refine va_get (D := D) (ci := 2) (v := .ref (d 3)) (C := R_M) (T := F_M) (N := 18) hx hb hts (iK iW_M) hown hK hP 0 rfl rfl 5 (by decide) (hts _ (kM kw_7ca6b28c)) (fun _ h9 => h9) rfl d_M_count_17 ?_
        refine lv_iload_n hx hb d_M_count_20 rfl (lv_at hl 0 rfl) ?_
        obtain ⟨h_7, hw⟩ := hw
        refine va_iald hx hb hK hP 3 0 rfl rfl h_7 d_M_count_21 ?_
        refine lv_if_lt (tgt := 29) hx hb d_M_count_22 (by decide) (fun c_8 => ?_) (fun c_8 => ?_)
        · have hw := hw.1 c_8
          refine lv_iconst (v := (0 : Int32)) hx hb d_M_count_29 (by decide) ?_
          refine lv_iadd hx hb d_M_count_30 ?_
          refine lv_istore_n (lv' := [(2, .int (x2_5 + (0 : Int32))), (3, .int x3_4), (0, .ref (d 0)), (1, .int x1)]) hx hb d_M_count_31 rfl hl (by decide) rfl (fun ls hl => ?_)
          refine lv_iinc (v := (x3_4 + 1)) (lv' := [(3, .int (x3_4 + 1)), (2, .int (x2_5 + (0 : Int32))), (0, .ref (d 0)), (1, .int x1)]) hx hb d_M_count_32 hl (k := 1) rfl rfl (by decide) rfl (fun ls hl => ?_)
          refine lv_goto (tgt := 9) hx hb d_M_count_35 (by decide) ?_
          exact ih_9 (x2_5 + (0 : Int32)) (x3_4 + 1) _ hw (lv_sub hl [0, 1, 2, 3] rfl)
        · have hw := hw.2 c_8
          refine lv_iconst (v := (1 : Int32)) hx hb d_M_count_25 (by decide) ?_
          refine lv_goto (tgt := 30) hx hb d_M_count_26 (by decide) ?_
          refine lv_iadd hx hb d_M_count_30 ?_
          refine lv_istore_n (lv' := [(2, .int (x2_5 + (1 : Int32))), (3, .int x3_4), (0, .ref (d 0)), (1, .int x1)]) hx hb d_M_count_31 rfl hl (by decide) rfl (fun ls hl => ?_)
          refine lv_iinc (v := (x3_4 + 1)) (lv' := [(3, .int (x3_4 + 1)), (2, .int (x2_5 + (1 : Int32))), (0, .ref (d 0)), (1, .int x1)]) hx hb d_M_count_32 hl (k := 1) rfl rfl (by decide) rfl (fun ls hl => ?_)
          refine lv_goto (tgt := 9) hx hb d_M_count_35 (by decide) ?_
          exact ih_9 (x2_5 + (1 : Int32)) (x3_4 + 1) _ hw (lv_sub hl [0, 1, 2, 3] rfl)
  exact key_9 n_9 (0 : Int32) (0 : Int32) _ hw (lv_sub hl [0, 1, 2, 3] rfl)
