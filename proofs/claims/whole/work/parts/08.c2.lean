def p_P_init (x1 : Int32) (post : Int32 → Int32 → Int32 → Int32 → (Nat → Int32) → (Nat → Int32) → (Nat → Int32) → (Nat → Int32) → (Nat → Int32) → Prop) : Prop := post x1 0 0 0 (fun _ => 0) (fun _ => 0) (fun _ => 0) (fun _ => 0) (fun _ => 0)
abbrev rm_P_init : Room := { frames := 1, cells := 5, slots := 40, locals := 40 }
set_option maxHeartbeats 4000000 in
set_option maxRecDepth 100000 in
theorem c_P_init {l : Launch} {D : va_G} {sa : Nat → Nat} {cI cZ : ClassId} {sz h0 : Nat} {x1 : Int32} {post : Int32 → Int32 → Int32 → Int32 → (Nat → Int32) → (Nat → Int32) → (Nat → Int32) → (Nat → Int32) → (Nat → Int32) → Prop} (hw : p_P_init x1 post) : Met l y_P_init w_P_init rm_P_init (va_Pc [.ref h0, .int x1] (kP D sa [(cI, .int), (cZ, .boolean)] ([(h0, .inr (1, [.int 0, .null, .null, .null, .null, .null, .int 0, .int 0, .int 0]))]) sz)) (va_Qv (fun (u : List Nat × Int32 × Int32 × Int32 × Int32 × (Nat → Int32) × (Nat → Int32) × (Nat → Int32) × (Nat → Int32) × (Nat → Int32)) => post u.2.1 u.2.2.1 u.2.2.2.1 u.2.2.2.2.1 u.2.2.2.2.2.1 u.2.2.2.2.2.2.1 u.2.2.2.2.2.2.2.1 u.2.2.2.2.2.2.2.2.1 u.2.2.2.2.2.2.2.2.2) (fun (u : List Nat × Int32 × Int32 × Int32 × Int32 × (Nat → Int32) × (Nat → Int32) × (Nat → Int32) × (Nat → Int32) × (Nat → Int32)) t => va_P D classes (pW (adP h0 u.1) cI cZ u.2.1 u.2.2.1 u.2.2.2.1 u.2.2.2.2.1 u.2.2.2.2.2.1 u.2.2.2.2.2.2.1 u.2.2.2.2.2.2.2.1 u.2.2.2.2.2.2.2.2.1 u.2.2.2.2.2.2.2.2.2) t.heap ∧ va_K D classes [(cI, .int), (cZ, .boolean)] t ∧ va_D (va_A ([(h0, .inr (1, [.int 0, .null, .null, .null, .null, .null, .int 0, .int 0, .int 0]))]) sz) (pW (adP h0 u.1) cI cZ u.2.1 u.2.2.1 u.2.2.2.1 u.2.2.2.2.1 u.2.2.2.2.2.1 u.2.2.2.2.2.2.1 u.2.2.2.2.2.2.2.1 u.2.2.2.2.2.2.2.2.1 u.2.2.2.2.2.2.2.2.2)) (va_A ([(h0, .inr (1, [.int 0, .null, .null, .null, .null, .null, .int 0, .int 0, .int 0]))]) sz)) 5 40 (va_A ([(h0, .inr (1, [.int 0, .null, .null, .null, .null, .null, .int 0, .int 0, .int 0]))]) sz) := by
  refine Met.ofW (cc := b_P_init) (maxL := 2) (ret := none) (by decide) rfl ?_
  intro p e s m args below meth c s₁ B hml hv
  obtain ⟨rfl, hsz, hP, hK, hD0, hZ⟩ := hv
  have hx := B.exec
  have hb := B.bytes
  have hr := B.returns
  have hts := atoms_spec (ws := w_P_init) B.pre
  have hown : s.vm.findClass R_P = some m.cls := findClass_of_methodNamed B.named
  have hlocks := B.notSynchronized
  have hin : meth.name = "<init>" := (name_of_methodNamed B.named B.method).1
  subst hsz
  have hD := hD0.self (sz := s.heap.size)
  generalize hAe : (va_A ([(h0, .inr (1, [.int 0, .null, .null, .null, .null, .null, .int 0, .int 0, .int 0]))]) s.heap.size) = A at hD hZ ⊢
  have hA : ∀ q : Nat, s.heap.size ≤ q → A q := fun q h => by rw [← hAe]; exact Or.inr h
  have hS : va_S A s.heap s.heap [] := va_S.rf
  have hl := lv_entry ([.ref h0, .int x1]) (n := 2) (Nat.le_of_ble_eq_true rfl)
  rw [lg_entry_eq]
  generalize (lg_sl ([.ref h0, .int x1]) ++ List.replicate (2 - (lg_sl ([.ref h0, .int x1])).length) Slot.unset).toArray = ls at hl ⊢
  have hl : lv_has ls 2 [(0, .ref h0), (1, .int x1)] := hl
  refine lv_aload_n hx hb d_P_init_0 rfl (lv_at hl 0 rfl) ?_
  refine W.objInit hx hb hown (hts _ (kM kw_109232b5)) (hts _ (kM kw_99ff6a43)) (hts _ (kM kw_bd0ebf18)) rfl (by rw [hml]; exact hl.1) rfl d_P_init_1 (Nat.le_of_ble_eq_true rfl) (Nat.le_of_ble_eq_true rfl) ?_
  refine W.eq (g2 := F0 m 4 ls []) rfl ?_
  refine lv_aload_n hx hb d_P_init_4 rfl (lv_at hl 0 rfl) ?_
  refine lv_bipush (v := (8 : Int32)) hx hb d_P_init_5 (by decide) ?_
  refine va_newa (atype := .int) (a0 := (8, .inl (fun _ => 0))) (ty := .int) hx hb (hts _ (kM kw_8e969fb2)) rfl hK hP hD hS hA (fun _ => rfl) (by decide) (by decide) (by decide) (Nat.le_of_ble_eq_true rfl) (Nat.le_of_ble_eq_true rfl) d_P_init_7 (fun q_1 cA_3 H hK hP hD hS => ?_)
  obtain rfl : cI = cA_3 := Option.some.inj ((va_nm_int (hK.2 0 _ rfl).2).symm.trans (va_nm_int (hK.2 2 _ rfl).2))
  have hK : va_K D classes [(cI, .int), (cZ, .boolean)] s := hK.sub [0, 1] rfl
  have hP : va_P D classes ([(h0, .inr (1, [.int 0, .null, .null, .null, .null, .null, .int 0, .int 0, .int 0])), (q_1, .inl (cI, 8, .inl (fun _ => 0)))]) H := hP
  have hD : va_D A ([(h0, .inr (1, [.int 0, .null, .null, .null, .null, .null, .int 0, .int 0, .int 0])), (q_1, .inl (cI, 8, .inl (fun _ => 0)))]) := hD
  refine va_putF (D := D) (ci := 1) (v := .ref q_1) (ty := (t_P 1)) (C := R_P) (T := F_P) (N := 9) hx hb hts (iK iW_P) t_P t_P_ok n_P hown hK hP hD hS 0 rfl rfl 1 (by decide) (hts _ (kM kw_504cce82)) (fun _ h9 => h9) rfl hin rfl (by decide +kernel) rfl rfl (Nat.le_of_ble_eq_true rfl) d_P_init_9 (fun H locs hP hD hS => ?_)
  have hP : va_P D classes ([(h0, .inr (1, [.int 0, .ref q_1, .null, .null, .null, .null, .int 0, .int 0, .int 0])), (q_1, .inl (cI, 8, .inl (fun _ => 0)))]) H := hP
  have hD : va_D A ([(h0, .inr (1, [.int 0, .ref q_1, .null, .null, .null, .null, .int 0, .int 0, .int 0])), (q_1, .inl (cI, 8, .inl (fun _ => 0)))]) := hD
  refine lv_aload_n hx hb d_P_init_12 rfl (lv_at hl 0 rfl) ?_
  refine lv_bipush (v := (8 : Int32)) hx hb d_P_init_13 (by decide) ?_
  refine va_newa (atype := .int) (a0 := (8, .inl (fun _ => 0))) (ty := .int) hx hb (hts _ (kM kw_8e969fb2)) rfl hK hP hD hS hA (fun _ => rfl) (by decide) (by decide) (by decide) (Nat.le_of_ble_eq_true rfl) (Nat.le_of_ble_eq_true rfl) d_P_init_15 (fun q_4 cA_6 H hK hP hD hS => ?_)
  obtain rfl : cI = cA_6 := Option.some.inj ((va_nm_int (hK.2 0 _ rfl).2).symm.trans (va_nm_int (hK.2 2 _ rfl).2))
  have hK : va_K D classes [(cI, .int), (cZ, .boolean)] s := hK.sub [0, 1] rfl
  have hP : va_P D classes ([(h0, .inr (1, [.int 0, .ref q_1, .null, .null, .null, .null, .int 0, .int 0, .int 0])), (q_1, .inl (cI, 8, .inl (fun _ => 0))), (q_4, .inl (cI, 8, .inl (fun _ => 0)))]) H := hP
  have hD : va_D A ([(h0, .inr (1, [.int 0, .ref q_1, .null, .null, .null, .null, .int 0, .int 0, .int 0])), (q_1, .inl (cI, 8, .inl (fun _ => 0))), (q_4, .inl (cI, 8, .inl (fun _ => 0)))]) := hD
  refine va_putF (D := D) (ci := 1) (v := .ref q_4) (ty := (t_P 2)) (C := R_P) (T := F_P) (N := 9) hx hb hts (iK iW_P) t_P t_P_ok n_P hown hK hP hD hS 0 rfl rfl 2 (by decide) (hts _ (kM kw_ef43ea25)) (fun _ h9 => h9) rfl hin rfl (by decide +kernel) rfl rfl (Nat.le_of_ble_eq_true rfl) d_P_init_17 (fun H locs hP hD hS => ?_)
  have hP : va_P D classes ([(h0, .inr (1, [.int 0, .ref q_1, .ref q_4, .null, .null, .null, .int 0, .int 0, .int 0])), (q_1, .inl (cI, 8, .inl (fun _ => 0))), (q_4, .inl (cI, 8, .inl (fun _ => 0)))]) H := hP
  have hD : va_D A ([(h0, .inr (1, [.int 0, .ref q_1, .ref q_4, .null, .null, .null, .int 0, .int 0, .int 0])), (q_1, .inl (cI, 8, .inl (fun _ => 0))), (q_4, .inl (cI, 8, .inl (fun _ => 0)))]) := hD
  refine lv_aload_n hx hb d_P_init_20 rfl (lv_at hl 0 rfl) ?_
  refine lv_bipush (v := (8 : Int32)) hx hb d_P_init_21 (by decide) ?_
  refine va_newa (atype := .boolean) (a0 := (8, .inl (fun _ => 0))) (ty := .boolean) hx hb (hts _ (kM kw_14bcb724)) rfl hK hP hD hS hA (fun _ => rfl) (by decide) (by decide) (by decide) (Nat.le_of_ble_eq_true rfl) (Nat.le_of_ble_eq_true rfl) d_P_init_23 (fun q_7 cA_9 H hK hP hD hS => ?_)
  obtain rfl : cZ = cA_9 := Option.some.inj ((va_nm_boolean (hK.2 1 _ rfl).2).symm.trans (va_nm_boolean (hK.2 2 _ rfl).2))
  have hK : va_K D classes [(cI, .int), (cZ, .boolean)] s := hK.sub [0, 1] rfl
  have hP : va_P D classes ([(h0, .inr (1, [.int 0, .ref q_1, .ref q_4, .null, .null, .null, .int 0, .int 0, .int 0])), (q_1, .inl (cI, 8, .inl (fun _ => 0))), (q_4, .inl (cI, 8, .inl (fun _ => 0))), (q_7, .inl (cZ, 8, .inl (fun _ => 0)))]) H := hP
  have hD : va_D A ([(h0, .inr (1, [.int 0, .ref q_1, .ref q_4, .null, .null, .null, .int 0, .int 0, .int 0])), (q_1, .inl (cI, 8, .inl (fun _ => 0))), (q_4, .inl (cI, 8, .inl (fun _ => 0))), (q_7, .inl (cZ, 8, .inl (fun _ => 0)))]) := hD
  refine va_putF (D := D) (ci := 1) (v := .ref q_7) (ty := (t_P 3)) (C := R_P) (T := F_P) (N := 9) hx hb hts (iK iW_P) t_P t_P_ok n_P hown hK hP hD hS 0 rfl rfl 3 (by decide) (hts _ (kM kw_16ad6009)) (fun _ h9 => h9) rfl hin rfl (by decide +kernel) rfl rfl (Nat.le_of_ble_eq_true rfl) d_P_init_25 (fun H locs hP hD hS => ?_)
  have hP : va_P D classes ([(h0, .inr (1, [.int 0, .ref q_1, .ref q_4, .ref q_7, .null, .null, .int 0, .int 0, .int 0])), (q_1, .inl (cI, 8, .inl (fun _ => 0))), (q_4, .inl (cI, 8, .inl (fun _ => 0))), (q_7, .inl (cZ, 8, .inl (fun _ => 0)))]) H := hP
  have hD : va_D A ([(h0, .inr (1, [.int 0, .ref q_1, .ref q_4, .ref q_7, .null, .null, .int 0, .int 0, .int 0])), (q_1, .inl (cI, 8, .inl (fun _ => 0))), (q_4, .inl (cI, 8, .inl (fun _ => 0))), (q_7, .inl (cZ, 8, .inl (fun _ => 0)))]) := hD
  refine lv_aload_n hx hb d_P_init_28 rfl (lv_at hl 0 rfl) ?_
  refine lv_bipush (v := (8 : Int32)) hx hb d_P_init_29 (by decide) ?_
  refine va_newa (atype := .int) (a0 := (8, .inl (fun _ => 0))) (ty := .int) hx hb (hts _ (kM kw_8e969fb2)) rfl hK hP hD hS hA (fun _ => rfl) (by decide) (by decide) (by decide) (Nat.le_of_ble_eq_true rfl) (Nat.le_of_ble_eq_true rfl) d_P_init_31 (fun q_10 cA_12 H hK hP hD hS => ?_)
  obtain rfl : cI = cA_12 := Option.some.inj ((va_nm_int (hK.2 0 _ rfl).2).symm.trans (va_nm_int (hK.2 2 _ rfl).2))
  have hK : va_K D classes [(cI, .int), (cZ, .boolean)] s := hK.sub [0, 1] rfl
  have hP : va_P D classes ([(h0, .inr (1, [.int 0, .ref q_1, .ref q_4, .ref q_7, .null, .null, .int 0, .int 0, .int 0])), (q_1, .inl (cI, 8, .inl (fun _ => 0))), (q_4, .inl (cI, 8, .inl (fun _ => 0))), (q_7, .inl (cZ, 8, .inl (fun _ => 0))), (q_10, .inl (cI, 8, .inl (fun _ => 0)))]) H := hP
  have hD : va_D A ([(h0, .inr (1, [.int 0, .ref q_1, .ref q_4, .ref q_7, .null, .null, .int 0, .int 0, .int 0])), (q_1, .inl (cI, 8, .inl (fun _ => 0))), (q_4, .inl (cI, 8, .inl (fun _ => 0))), (q_7, .inl (cZ, 8, .inl (fun _ => 0))), (q_10, .inl (cI, 8, .inl (fun _ => 0)))]) := hD
  refine va_putF (D := D) (ci := 1) (v := .ref q_10) (ty := (t_P 4)) (C := R_P) (T := F_P) (N := 9) hx hb hts (iK iW_P) t_P t_P_ok n_P hown hK hP hD hS 0 rfl rfl 4 (by decide) (hts _ (kM kw_ae787081)) (fun _ h9 => h9) rfl hin rfl (by decide +kernel) rfl rfl (Nat.le_of_ble_eq_true rfl) d_P_init_33 (fun H locs hP hD hS => ?_)
  have hP : va_P D classes ([(h0, .inr (1, [.int 0, .ref q_1, .ref q_4, .ref q_7, .ref q_10, .null, .int 0, .int 0, .int 0])), (q_1, .inl (cI, 8, .inl (fun _ => 0))), (q_4, .inl (cI, 8, .inl (fun _ => 0))), (q_7, .inl (cZ, 8, .inl (fun _ => 0))), (q_10, .inl (cI, 8, .inl (fun _ => 0)))]) H := hP
  have hD : va_D A ([(h0, .inr (1, [.int 0, .ref q_1, .ref q_4, .ref q_7, .ref q_10, .null, .int 0, .int 0, .int 0])), (q_1, .inl (cI, 8, .inl (fun _ => 0))), (q_4, .inl (cI, 8, .inl (fun _ => 0))), (q_7, .inl (cZ, 8, .inl (fun _ => 0))), (q_10, .inl (cI, 8, .inl (fun _ => 0)))]) := hD
  refine lv_aload_n hx hb d_P_init_36 rfl (lv_at hl 0 rfl) ?_
  refine lv_bipush (v := (8 : Int32)) hx hb d_P_init_37 (by decide) ?_
  refine va_newa (atype := .int) (a0 := (8, .inl (fun _ => 0))) (ty := .int) hx hb (hts _ (kM kw_8e969fb2)) rfl hK hP hD hS hA (fun _ => rfl) (by decide) (by decide) (by decide) (Nat.le_of_ble_eq_true rfl) (Nat.le_of_ble_eq_true rfl) d_P_init_39 (fun q_13 cA_15 H hK hP hD hS => ?_)
  obtain rfl : cI = cA_15 := Option.some.inj ((va_nm_int (hK.2 0 _ rfl).2).symm.trans (va_nm_int (hK.2 2 _ rfl).2))
  have hK : va_K D classes [(cI, .int), (cZ, .boolean)] s := hK.sub [0, 1] rfl
  have hP : va_P D classes ([(h0, .inr (1, [.int 0, .ref q_1, .ref q_4, .ref q_7, .ref q_10, .null, .int 0, .int 0, .int 0])), (q_1, .inl (cI, 8, .inl (fun _ => 0))), (q_4, .inl (cI, 8, .inl (fun _ => 0))), (q_7, .inl (cZ, 8, .inl (fun _ => 0))), (q_10, .inl (cI, 8, .inl (fun _ => 0))), (q_13, .inl (cI, 8, .inl (fun _ => 0)))]) H := hP
  have hD : va_D A ([(h0, .inr (1, [.int 0, .ref q_1, .ref q_4, .ref q_7, .ref q_10, .null, .int 0, .int 0, .int 0])), (q_1, .inl (cI, 8, .inl (fun _ => 0))), (q_4, .inl (cI, 8, .inl (fun _ => 0))), (q_7, .inl (cZ, 8, .inl (fun _ => 0))), (q_10, .inl (cI, 8, .inl (fun _ => 0))), (q_13, .inl (cI, 8, .inl (fun _ => 0)))]) := hD
  refine va_putF (D := D) (ci := 1) (v := .ref q_13) (ty := (t_P 5)) (C := R_P) (T := F_P) (N := 9) hx hb hts (iK iW_P) t_P t_P_ok n_P hown hK hP hD hS 0 rfl rfl 5 (by decide) (hts _ (kM kw_9ed59189)) (fun _ h9 => h9) rfl hin rfl (by decide +kernel) rfl rfl (Nat.le_of_ble_eq_true rfl) d_P_init_41 (fun H locs hP hD hS => ?_)
  have hP : va_P D classes ([(h0, .inr (1, [.int 0, .ref q_1, .ref q_4, .ref q_7, .ref q_10, .ref q_13, .int 0, .int 0, .int 0])), (q_1, .inl (cI, 8, .inl (fun _ => 0))), (q_4, .inl (cI, 8, .inl (fun _ => 0))), (q_7, .inl (cZ, 8, .inl (fun _ => 0))), (q_10, .inl (cI, 8, .inl (fun _ => 0))), (q_13, .inl (cI, 8, .inl (fun _ => 0)))]) H := hP
  have hD : va_D A ([(h0, .inr (1, [.int 0, .ref q_1, .ref q_4, .ref q_7, .ref q_10, .ref q_13, .int 0, .int 0, .int 0])), (q_1, .inl (cI, 8, .inl (fun _ => 0))), (q_4, .inl (cI, 8, .inl (fun _ => 0))), (q_7, .inl (cZ, 8, .inl (fun _ => 0))), (q_10, .inl (cI, 8, .inl (fun _ => 0))), (q_13, .inl (cI, 8, .inl (fun _ => 0)))]) := hD
  refine lv_aload_n hx hb d_P_init_44 rfl (lv_at hl 0 rfl) ?_
  refine lv_iload_n hx hb d_P_init_45 rfl (lv_at hl 1 rfl) ?_
  refine va_putF (D := D) (ci := 1) (v := .int x1) (ty := .int) (C := R_P) (T := F_P) (N := 9) hx hb hts (iK iW_P) t_P t_P_ok n_P hown hK hP hD hS 0 rfl rfl 0 (by decide) (hts _ (kM kw_37ce28d0)) (fun _ h9 => h9) rfl hin rfl (by decide +kernel) rfl rfl (Nat.le_of_ble_eq_true rfl) d_P_init_46 (fun H locs hP hD hS => ?_)
  have hP : va_P D classes ([(h0, .inr (1, [.int x1, .ref q_1, .ref q_4, .ref q_7, .ref q_10, .ref q_13, .int 0, .int 0, .int 0])), (q_1, .inl (cI, 8, .inl (fun _ => 0))), (q_4, .inl (cI, 8, .inl (fun _ => 0))), (q_7, .inl (cZ, 8, .inl (fun _ => 0))), (q_10, .inl (cI, 8, .inl (fun _ => 0))), (q_13, .inl (cI, 8, .inl (fun _ => 0)))]) H := hP
  have hD : va_D A ([(h0, .inr (1, [.int x1, .ref q_1, .ref q_4, .ref q_7, .ref q_10, .ref q_13, .int 0, .int 0, .int 0])), (q_1, .inl (cI, 8, .inl (fun _ => 0))), (q_4, .inl (cI, 8, .inl (fun _ => 0))), (q_7, .inl (cZ, 8, .inl (fun _ => 0))), (q_10, .inl (cI, 8, .inl (fun _ => 0))), (q_13, .inl (cI, 8, .inl (fun _ => 0)))]) := hD
  have hP9 := hP.sub (ws' := pW (adP h0 [q_1, q_4, q_7, q_10, q_13]) cI cZ x1 0 0 0 (fun _ => 0) (fun _ => 0) (fun _ => 0) (fun _ => 0) (fun _ => 0)) [0, 1, 2, 3, 4, 5] rfl
  have hD9 := hD.sub (ws' := pW (adP h0 [q_1, q_4, q_7, q_10, q_13]) cI cZ x1 0 0 0 (fun _ => 0) (fun _ => 0) (fun _ => 0) (fun _ => 0) (fun _ => 0)) [0, 1, 2, 3, 4, 5] (by decide) rfl
  have hK9 : va_K D classes [(cI, .int), (cZ, .boolean)] s := hK.sub [0, 1] rfl
  exact W.vret hx hb hr (fun t ht hW => ⟨⟨([q_1, q_4, q_7, q_10, q_13], x1, 0, 0, 0, (fun _ => 0), (fun _ => 0), (fun _ => 0), (fun _ => 0), (fun _ => 0)), rfl, hw, by rw [ht]; exact hP9, va_K.moved hW.alike hK9, hD9⟩, hS.F ht⟩) hS.2.2 d_P_init_49
def p_C_init_L90_B (K_90 : Int32 → (Nat → Int32) → (Nat → Int32) → Prop) (rec_90 : Int32 → (Nat → Int32) → (Nat → Int32) → Prop) (x2_90 : Int32) (placeOf_90 : Nat → Int32) (shelfAt_90 : Nat → Int32) : Prop := (((24 : Int32) ≤ x2_90 → K_90 x2_90 placeOf_90 shelfAt_90) ∧ (¬ (24 : Int32) ≤ x2_90 → (vp_in x2_90 24 ∧ (vp_in x2_90 24 ∧ rec_90 (x2_90 + 1) (upd placeOf_90 (x2_90).toNatClampNeg x2_90) (upd shelfAt_90 (x2_90).toNatClampNeg x2_90)))))
def p_C_init_L90 (K_90 : Int32 → (Nat → Int32) → (Nat → Int32) → Prop) : Nat → Int32 → (Nat → Int32) → (Nat → Int32) → Prop
  | 0 => fun _ _ _ => False
  | n + 1 => p_C_init_L90_B K_90 (p_C_init_L90 K_90 n)
def p_C_init_L118_B (K_118 : Int32 → (Nat → Int32) → Prop) (rec_118 : Int32 → (Nat → Int32) → Prop) (x2_118 : Int32) (shelfOf_118 : Nat → Int32) : Prop := (((20 : Int32) ≤ x2_118 → K_118 x2_118 shelfOf_118) ∧ (¬ (20 : Int32) ≤ x2_118 → (vp_in x2_118 20 ∧ rec_118 (x2_118 + 1) (upd shelfOf_118 (x2_118).toNatClampNeg (-1 : Int32)))))
def p_C_init_L118 (K_118 : Int32 → (Nat → Int32) → Prop) : Nat → Int32 → (Nat → Int32) → Prop
  | 0 => fun _ _ => False
  | n + 1 => p_C_init_L118_B K_118 (p_C_init_L118 K_118 n)
def p_C_init (x1 : Int32) (post : Int32 → Int32 → Int32 → Int32 → Int32 → (Nat → Int32) → (Nat → Int32) → (Nat → Int32) → (Nat → Int32) → (Nat → Int32) → (Nat → Int32) → (Nat → Int32) → Int32 → Int32 → Int32 → Int32 → (Nat → Int32) → (Nat → Int32) → (Nat → Int32) → (Nat → Int32) → (Nat → Int32) → Prop) : Prop := (p_P_init (if (0 : Int32) < (if x1 < (24 : Int32) then x1 else (24 : Int32)) then (if x1 < (24 : Int32) then x1 else (24 : Int32)) else (0 : Int32)) (fun ring_22 stops_23 fewest_24 isExact_25 shelves_26 stopPlaces_27 taken_28 trial_29 best_30 => (∃ n, p_C_init_L90 (fun (k_40 : Int32) (k_41 : Nat → Int32) (k_42 : Nat → Int32) => (∃ n, p_C_init_L118 (fun (k_49 : Int32) (k_50 : Nat → Int32) => post (if (0 : Int32) < (if x1 < (24 : Int32) then x1 else (24 : Int32)) then (if x1 < (24 : Int32) then x1 else (24 : Int32)) else (0 : Int32)) 0 0 0 0 k_41 k_42 (fun _ => 0) k_50 (fun _ => 0) (fun _ => 0) (fun _ => 0) ring_22 stops_23 fewest_24 isExact_25 shelves_26 stopPlaces_27 taken_28 trial_29 best_30) n (0 : Int32) (fun _ => 0))) n (0 : Int32) (fun _ => 0) (fun _ => 0))))
abbrev rm_C_init : Room := { frames := 2, cells := 13, slots := 171, locals := 61 }
set_option maxHeartbeats 4000000 in
set_option maxRecDepth 100000 in
theorem c_C_init {l : Launch} {D : va_G} {sa : Nat → Nat} {sz h0 : Nat} {x1 : Int32} {post : Int32 → Int32 → Int32 → Int32 → Int32 → (Nat → Int32) → (Nat → Int32) → (Nat → Int32) → (Nat → Int32) → (Nat → Int32) → (Nat → Int32) → (Nat → Int32) → Int32 → Int32 → Int32 → Int32 → (Nat → Int32) → (Nat → Int32) → (Nat → Int32) → (Nat → Int32) → (Nat → Int32) → Prop} (hw : p_C_init x1 post) : Met l y_C_init w_C_init rm_C_init (va_Pc [.ref h0, .int x1] (kP D sa [] ([(h0, .inr (0, [.int 0, .null, .null, .null, .null, .null, .null, .null, .null, .int 0, .int 0, .int 0, .int 0]))]) sz)) (va_Qv (fun (u : List Nat × ClassId × ClassId × Int32 × Int32 × Int32 × Int32 × Int32 × (Nat → Int32) × (Nat → Int32) × (Nat → Int32) × (Nat → Int32) × (Nat → Int32) × (Nat → Int32) × (Nat → Int32) × Int32 × Int32 × Int32 × Int32 × (Nat → Int32) × (Nat → Int32) × (Nat → Int32) × (Nat → Int32) × (Nat → Int32)) => post u.2.2.2.1 u.2.2.2.2.1 u.2.2.2.2.2.1 u.2.2.2.2.2.2.1 u.2.2.2.2.2.2.2.1 u.2.2.2.2.2.2.2.2.1 u.2.2.2.2.2.2.2.2.2.1 u.2.2.2.2.2.2.2.2.2.2.1 u.2.2.2.2.2.2.2.2.2.2.2.1 u.2.2.2.2.2.2.2.2.2.2.2.2.1 u.2.2.2.2.2.2.2.2.2.2.2.2.2.1 u.2.2.2.2.2.2.2.2.2.2.2.2.2.2.1 u.2.2.2.2.2.2.2.2.2.2.2.2.2.2.2.1 u.2.2.2.2.2.2.2.2.2.2.2.2.2.2.2.2.1 u.2.2.2.2.2.2.2.2.2.2.2.2.2.2.2.2.2.1 u.2.2.2.2.2.2.2.2.2.2.2.2.2.2.2.2.2.2.1 u.2.2.2.2.2.2.2.2.2.2.2.2.2.2.2.2.2.2.2.1 u.2.2.2.2.2.2.2.2.2.2.2.2.2.2.2.2.2.2.2.2.1 u.2.2.2.2.2.2.2.2.2.2.2.2.2.2.2.2.2.2.2.2.2.1 u.2.2.2.2.2.2.2.2.2.2.2.2.2.2.2.2.2.2.2.2.2.2.1 u.2.2.2.2.2.2.2.2.2.2.2.2.2.2.2.2.2.2.2.2.2.2.2) (fun (u : List Nat × ClassId × ClassId × Int32 × Int32 × Int32 × Int32 × Int32 × (Nat → Int32) × (Nat → Int32) × (Nat → Int32) × (Nat → Int32) × (Nat → Int32) × (Nat → Int32) × (Nat → Int32) × Int32 × Int32 × Int32 × Int32 × (Nat → Int32) × (Nat → Int32) × (Nat → Int32) × (Nat → Int32) × (Nat → Int32)) t => va_P D classes (cW (adC h0 u.1) u.2.1 u.2.2.1 u.2.2.2.1 u.2.2.2.2.1 u.2.2.2.2.2.1 u.2.2.2.2.2.2.1 u.2.2.2.2.2.2.2.1 u.2.2.2.2.2.2.2.2.1 u.2.2.2.2.2.2.2.2.2.1 u.2.2.2.2.2.2.2.2.2.2.1 u.2.2.2.2.2.2.2.2.2.2.2.1 u.2.2.2.2.2.2.2.2.2.2.2.2.1 u.2.2.2.2.2.2.2.2.2.2.2.2.2.1 u.2.2.2.2.2.2.2.2.2.2.2.2.2.2.1 u.2.2.2.2.2.2.2.2.2.2.2.2.2.2.2.1 u.2.2.2.2.2.2.2.2.2.2.2.2.2.2.2.2.1 u.2.2.2.2.2.2.2.2.2.2.2.2.2.2.2.2.2.1 u.2.2.2.2.2.2.2.2.2.2.2.2.2.2.2.2.2.2.1 u.2.2.2.2.2.2.2.2.2.2.2.2.2.2.2.2.2.2.2.1 u.2.2.2.2.2.2.2.2.2.2.2.2.2.2.2.2.2.2.2.2.1 u.2.2.2.2.2.2.2.2.2.2.2.2.2.2.2.2.2.2.2.2.2.1 u.2.2.2.2.2.2.2.2.2.2.2.2.2.2.2.2.2.2.2.2.2.2.1 u.2.2.2.2.2.2.2.2.2.2.2.2.2.2.2.2.2.2.2.2.2.2.2) t.heap ∧ va_K D classes [(u.2.1, .int), (u.2.2.1, .boolean)] t ∧ va_D (va_A ([(h0, .inr (0, [.int 0, .null, .null, .null, .null, .null, .null, .null, .null, .int 0, .int 0, .int 0, .int 0]))]) sz) (cW (adC h0 u.1) u.2.1 u.2.2.1 u.2.2.2.1 u.2.2.2.2.1 u.2.2.2.2.2.1 u.2.2.2.2.2.2.1 u.2.2.2.2.2.2.2.1 u.2.2.2.2.2.2.2.2.1 u.2.2.2.2.2.2.2.2.2.1 u.2.2.2.2.2.2.2.2.2.2.1 u.2.2.2.2.2.2.2.2.2.2.2.1 u.2.2.2.2.2.2.2.2.2.2.2.2.1 u.2.2.2.2.2.2.2.2.2.2.2.2.2.1 u.2.2.2.2.2.2.2.2.2.2.2.2.2.2.1 u.2.2.2.2.2.2.2.2.2.2.2.2.2.2.2.1 u.2.2.2.2.2.2.2.2.2.2.2.2.2.2.2.2.1 u.2.2.2.2.2.2.2.2.2.2.2.2.2.2.2.2.2.1 u.2.2.2.2.2.2.2.2.2.2.2.2.2.2.2.2.2.2.1 u.2.2.2.2.2.2.2.2.2.2.2.2.2.2.2.2.2.2.2.1 u.2.2.2.2.2.2.2.2.2.2.2.2.2.2.2.2.2.2.2.2.1 u.2.2.2.2.2.2.2.2.2.2.2.2.2.2.2.2.2.2.2.2.2.1 u.2.2.2.2.2.2.2.2.2.2.2.2.2.2.2.2.2.2.2.2.2.2.1 u.2.2.2.2.2.2.2.2.2.2.2.2.2.2.2.2.2.2.2.2.2.2.2)) (va_A ([(h0, .inr (0, [.int 0, .null, .null, .null, .null, .null, .null, .null, .null, .int 0, .int 0, .int 0, .int 0]))]) sz)) 13 171 (va_A ([(h0, .inr (0, [.int 0, .null, .null, .null, .null, .null, .null, .null, .null, .int 0, .int 0, .int 0, .int 0]))]) sz) := by
  refine Met.ofW (cc := b_C_init) (maxL := 3) (ret := none) (by decide) rfl ?_
  intro p e s m args below meth c s₁ B hml hv
  obtain ⟨rfl, hsz, hP, hK, hD0, hZ⟩ := hv
  have hx := B.exec
  have hb := B.bytes
  have hr := B.returns
  have hts := atoms_spec (ws := w_C_init) B.pre
  have hown : s.vm.findClass R_C = some m.cls := findClass_of_methodNamed B.named
  have hlocks := B.notSynchronized
  have hin : meth.name = "<init>" := (name_of_methodNamed B.named B.method).1
  subst hsz
  have hD := hD0.self (sz := s.heap.size)
  generalize hAe : (va_A ([(h0, .inr (0, [.int 0, .null, .null, .null, .null, .null, .null, .null, .null, .int 0, .int 0, .int 0, .int 0]))]) s.heap.size) = A at hD hZ ⊢
  have hA : ∀ q : Nat, s.heap.size ≤ q → A q := fun q h => by rw [← hAe]; exact Or.inr h
  have hS : va_S A s.heap s.heap [] := va_S.rf
  have hl := lv_entry ([.ref h0, .int x1]) (n := 3) (Nat.le_of_ble_eq_true rfl)
  rw [lg_entry_eq]
  generalize (lg_sl ([.ref h0, .int x1]) ++ List.replicate (3 - (lg_sl ([.ref h0, .int x1])).length) Slot.unset).toArray = ls at hl ⊢
  have hl : lv_has ls 3 [(0, .ref h0), (1, .int x1)] := hl
  refine lv_aload_n hx hb d_C_init_0 rfl (lv_at hl 0 rfl) ?_
  refine W.objInit hx hb hown (hts _ (kM kw_e90156ff)) (hts _ (kM kw_99ff6a43)) (hts _ (kM kw_bd0ebf18)) rfl (by rw [hml]; exact hl.1) rfl d_C_init_1 (Nat.le_of_ble_eq_true rfl) (Nat.le_of_ble_eq_true rfl) ?_
  refine W.eq (g2 := F0 m 4 ls []) rfl ?_
  refine lv_aload_n hx hb d_C_init_4 rfl (lv_at hl 0 rfl) ?_
  refine lv_bipush (v := (24 : Int32)) hx hb d_C_init_5 (by decide) ?_
  refine va_newa (atype := .int) (a0 := (24, .inl (fun _ => 0))) (ty := .int) hx hb (hts _ (kM kw_8e969fb2)) rfl hK hP hD hS hA (fun _ => rfl) (by decide) (by decide) (by decide) (Nat.le_of_ble_eq_true rfl) (Nat.le_of_ble_eq_true rfl) d_C_init_7 (fun q_1 cI H hK hP hD hS => ?_)
  have hK : va_K D classes [(cI, .int)] s := hK.sub [0] rfl
  have hP : va_P D classes ([(h0, .inr (0, [.int 0, .null, .null, .null, .null, .null, .null, .null, .null, .int 0, .int 0, .int 0, .int 0])), (q_1, .inl (cI, 24, .inl (fun _ => 0)))]) H := hP
  have hD : va_D A ([(h0, .inr (0, [.int 0, .null, .null, .null, .null, .null, .null, .null, .null, .int 0, .int 0, .int 0, .int 0])), (q_1, .inl (cI, 24, .inl (fun _ => 0)))]) := hD
  refine va_putF (D := D) (ci := 0) (v := .ref q_1) (ty := (t_C 1)) (C := R_C) (T := F_C) (N := 13) hx hb hts (iK iW_C) t_C t_C_ok n_C hown hK hP hD hS 0 rfl rfl 1 (by decide) (hts _ (kM kw_47d73e1c)) (fun _ h9 => h9) rfl hin rfl (by decide +kernel) rfl rfl (Nat.le_of_ble_eq_true rfl) d_C_init_9 (fun H locs hP hD hS => ?_)
  have hP : va_P D classes ([(h0, .inr (0, [.int 0, .ref q_1, .null, .null, .null, .null, .null, .null, .null, .int 0, .int 0, .int 0, .int 0])), (q_1, .inl (cI, 24, .inl (fun _ => 0)))]) H := hP
  have hD : va_D A ([(h0, .inr (0, [.int 0, .ref q_1, .null, .null, .null, .null, .null, .null, .null, .int 0, .int 0, .int 0, .int 0])), (q_1, .inl (cI, 24, .inl (fun _ => 0)))]) := hD
  refine lv_aload_n hx hb d_C_init_12 rfl (lv_at hl 0 rfl) ?_
  refine lv_bipush (v := (24 : Int32)) hx hb d_C_init_13 (by decide) ?_
  refine va_newa (atype := .int) (a0 := (24, .inl (fun _ => 0))) (ty := .int) hx hb (hts _ (kM kw_8e969fb2)) rfl hK hP hD hS hA (fun _ => rfl) (by decide) (by decide) (by decide) (Nat.le_of_ble_eq_true rfl) (Nat.le_of_ble_eq_true rfl) d_C_init_15 (fun q_3 cA_5 H hK hP hD hS => ?_)
  obtain rfl : cI = cA_5 := Option.some.inj ((va_nm_int (hK.2 0 _ rfl).2).symm.trans (va_nm_int (hK.2 1 _ rfl).2))
  have hK : va_K D classes [(cI, .int)] s := hK.sub [0] rfl
  have hP : va_P D classes ([(h0, .inr (0, [.int 0, .ref q_1, .null, .null, .null, .null, .null, .null, .null, .int 0, .int 0, .int 0, .int 0])), (q_1, .inl (cI, 24, .inl (fun _ => 0))), (q_3, .inl (cI, 24, .inl (fun _ => 0)))]) H := hP
  have hD : va_D A ([(h0, .inr (0, [.int 0, .ref q_1, .null, .null, .null, .null, .null, .null, .null, .int 0, .int 0, .int 0, .int 0])), (q_1, .inl (cI, 24, .inl (fun _ => 0))), (q_3, .inl (cI, 24, .inl (fun _ => 0)))]) := hD
  refine va_putF (D := D) (ci := 0) (v := .ref q_3) (ty := (t_C 2)) (C := R_C) (T := F_C) (N := 13) hx hb hts (iK iW_C) t_C t_C_ok n_C hown hK hP hD hS 0 rfl rfl 2 (by decide) (hts _ (kM kw_99734f87)) (fun _ h9 => h9) rfl hin rfl (by decide +kernel) rfl rfl (Nat.le_of_ble_eq_true rfl) d_C_init_17 (fun H locs hP hD hS => ?_)
  have hP : va_P D classes ([(h0, .inr (0, [.int 0, .ref q_1, .ref q_3, .null, .null, .null, .null, .null, .null, .int 0, .int 0, .int 0, .int 0])), (q_1, .inl (cI, 24, .inl (fun _ => 0))), (q_3, .inl (cI, 24, .inl (fun _ => 0)))]) H := hP
  have hD : va_D A ([(h0, .inr (0, [.int 0, .ref q_1, .ref q_3, .null, .null, .null, .null, .null, .null, .int 0, .int 0, .int 0, .int 0])), (q_1, .inl (cI, 24, .inl (fun _ => 0))), (q_3, .inl (cI, 24, .inl (fun _ => 0)))]) := hD
  refine lv_aload_n hx hb d_C_init_20 rfl (lv_at hl 0 rfl) ?_
  refine lv_bipush (v := (24 : Int32)) hx hb d_C_init_21 (by decide) ?_
  refine va_newa (atype := .boolean) (a0 := (24, .inl (fun _ => 0))) (ty := .boolean) hx hb (hts _ (kM kw_14bcb724)) rfl hK hP hD hS hA (fun _ => rfl) (by decide) (by decide) (by decide) (Nat.le_of_ble_eq_true rfl) (Nat.le_of_ble_eq_true rfl) d_C_init_23 (fun q_6 cZ H hK hP hD hS => ?_)
  have hK : va_K D classes [(cI, .int), (cZ, .boolean)] s := hK.sub [0, 1] rfl
  have hP : va_P D classes ([(h0, .inr (0, [.int 0, .ref q_1, .ref q_3, .null, .null, .null, .null, .null, .null, .int 0, .int 0, .int 0, .int 0])), (q_1, .inl (cI, 24, .inl (fun _ => 0))), (q_3, .inl (cI, 24, .inl (fun _ => 0))), (q_6, .inl (cZ, 24, .inl (fun _ => 0)))]) H := hP
  have hD : va_D A ([(h0, .inr (0, [.int 0, .ref q_1, .ref q_3, .null, .null, .null, .null, .null, .null, .int 0, .int 0, .int 0, .int 0])), (q_1, .inl (cI, 24, .inl (fun _ => 0))), (q_3, .inl (cI, 24, .inl (fun _ => 0))), (q_6, .inl (cZ, 24, .inl (fun _ => 0)))]) := hD
  refine va_putF (D := D) (ci := 0) (v := .ref q_6) (ty := (t_C 3)) (C := R_C) (T := F_C) (N := 13) hx hb hts (iK iW_C) t_C t_C_ok n_C hown hK hP hD hS 0 rfl rfl 3 (by decide) (hts _ (kM kw_932815e5)) (fun _ h9 => h9) rfl hin rfl (by decide +kernel) rfl rfl (Nat.le_of_ble_eq_true rfl) d_C_init_25 (fun H locs hP hD hS => ?_)
  have hP : va_P D classes ([(h0, .inr (0, [.int 0, .ref q_1, .ref q_3, .ref q_6, .null, .null, .null, .null, .null, .int 0, .int 0, .int 0, .int 0])), (q_1, .inl (cI, 24, .inl (fun _ => 0))), (q_3, .inl (cI, 24, .inl (fun _ => 0))), (q_6, .inl (cZ, 24, .inl (fun _ => 0)))]) H := hP
  have hD : va_D A ([(h0, .inr (0, [.int 0, .ref q_1, .ref q_3, .ref q_6, .null, .null, .null, .null, .null, .int 0, .int 0, .int 0, .int 0])), (q_1, .inl (cI, 24, .inl (fun _ => 0))), (q_3, .inl (cI, 24, .inl (fun _ => 0))), (q_6, .inl (cZ, 24, .inl (fun _ => 0)))]) := hD
  refine lv_aload_n hx hb d_C_init_28 rfl (lv_at hl 0 rfl) ?_
  refine lv_bipush (v := (20 : Int32)) hx hb d_C_init_29 (by decide) ?_
  refine va_newa (atype := .int) (a0 := (20, .inl (fun _ => 0))) (ty := .int) hx hb (hts _ (kM kw_8e969fb2)) rfl hK hP hD hS hA (fun _ => rfl) (by decide) (by decide) (by decide) (Nat.le_of_ble_eq_true rfl) (Nat.le_of_ble_eq_true rfl) d_C_init_31 (fun q_8 cA_10 H hK hP hD hS => ?_)
  obtain rfl : cI = cA_10 := Option.some.inj ((va_nm_int (hK.2 0 _ rfl).2).symm.trans (va_nm_int (hK.2 2 _ rfl).2))
  have hK : va_K D classes [(cI, .int), (cZ, .boolean)] s := hK.sub [0, 1] rfl
  have hP : va_P D classes ([(h0, .inr (0, [.int 0, .ref q_1, .ref q_3, .ref q_6, .null, .null, .null, .null, .null, .int 0, .int 0, .int 0, .int 0])), (q_1, .inl (cI, 24, .inl (fun _ => 0))), (q_3, .inl (cI, 24, .inl (fun _ => 0))), (q_6, .inl (cZ, 24, .inl (fun _ => 0))), (q_8, .inl (cI, 20, .inl (fun _ => 0)))]) H := hP
  have hD : va_D A ([(h0, .inr (0, [.int 0, .ref q_1, .ref q_3, .ref q_6, .null, .null, .null, .null, .null, .int 0, .int 0, .int 0, .int 0])), (q_1, .inl (cI, 24, .inl (fun _ => 0))), (q_3, .inl (cI, 24, .inl (fun _ => 0))), (q_6, .inl (cZ, 24, .inl (fun _ => 0))), (q_8, .inl (cI, 20, .inl (fun _ => 0)))]) := hD
  refine va_putF (D := D) (ci := 0) (v := .ref q_8) (ty := (t_C 4)) (C := R_C) (T := F_C) (N := 13) hx hb hts (iK iW_C) t_C t_C_ok n_C hown hK hP hD hS 0 rfl rfl 4 (by decide) (hts _ (kM kw_03cac826)) (fun _ h9 => h9) rfl hin rfl (by decide +kernel) rfl rfl (Nat.le_of_ble_eq_true rfl) d_C_init_33 (fun H locs hP hD hS => ?_)
  have hP : va_P D classes ([(h0, .inr (0, [.int 0, .ref q_1, .ref q_3, .ref q_6, .ref q_8, .null, .null, .null, .null, .int 0, .int 0, .int 0, .int 0])), (q_1, .inl (cI, 24, .inl (fun _ => 0))), (q_3, .inl (cI, 24, .inl (fun _ => 0))), (q_6, .inl (cZ, 24, .inl (fun _ => 0))), (q_8, .inl (cI, 20, .inl (fun _ => 0)))]) H := hP
  have hD : va_D A ([(h0, .inr (0, [.int 0, .ref q_1, .ref q_3, .ref q_6, .ref q_8, .null, .null, .null, .null, .int 0, .int 0, .int 0, .int 0])), (q_1, .inl (cI, 24, .inl (fun _ => 0))), (q_3, .inl (cI, 24, .inl (fun _ => 0))), (q_6, .inl (cZ, 24, .inl (fun _ => 0))), (q_8, .inl (cI, 20, .inl (fun _ => 0)))]) := hD
  refine lv_aload_n hx hb d_C_init_36 rfl (lv_at hl 0 rfl) ?_
  refine lv_bipush (v := (20 : Int32)) hx hb d_C_init_37 (by decide) ?_
  refine va_newa (atype := .int) (a0 := (20, .inl (fun _ => 0))) (ty := .int) hx hb (hts _ (kM kw_8e969fb2)) rfl hK hP hD hS hA (fun _ => rfl) (by decide) (by decide) (by decide) (Nat.le_of_ble_eq_true rfl) (Nat.le_of_ble_eq_true rfl) d_C_init_39 (fun q_11 cA_13 H hK hP hD hS => ?_)
  obtain rfl : cI = cA_13 := Option.some.inj ((va_nm_int (hK.2 0 _ rfl).2).symm.trans (va_nm_int (hK.2 2 _ rfl).2))
  have hK : va_K D classes [(cI, .int), (cZ, .boolean)] s := hK.sub [0, 1] rfl
  have hP : va_P D classes ([(h0, .inr (0, [.int 0, .ref q_1, .ref q_3, .ref q_6, .ref q_8, .null, .null, .null, .null, .int 0, .int 0, .int 0, .int 0])), (q_1, .inl (cI, 24, .inl (fun _ => 0))), (q_3, .inl (cI, 24, .inl (fun _ => 0))), (q_6, .inl (cZ, 24, .inl (fun _ => 0))), (q_8, .inl (cI, 20, .inl (fun _ => 0))), (q_11, .inl (cI, 20, .inl (fun _ => 0)))]) H := hP
  have hD : va_D A ([(h0, .inr (0, [.int 0, .ref q_1, .ref q_3, .ref q_6, .ref q_8, .null, .null, .null, .null, .int 0, .int 0, .int 0, .int 0])), (q_1, .inl (cI, 24, .inl (fun _ => 0))), (q_3, .inl (cI, 24, .inl (fun _ => 0))), (q_6, .inl (cZ, 24, .inl (fun _ => 0))), (q_8, .inl (cI, 20, .inl (fun _ => 0))), (q_11, .inl (cI, 20, .inl (fun _ => 0)))]) := hD
  refine va_putF (D := D) (ci := 0) (v := .ref q_11) (ty := (t_C 5)) (C := R_C) (T := F_C) (N := 13) hx hb hts (iK iW_C) t_C t_C_ok n_C hown hK hP hD hS 0 rfl rfl 5 (by decide) (hts _ (kM kw_bfd2040d)) (fun _ h9 => h9) rfl hin rfl (by decide +kernel) rfl rfl (Nat.le_of_ble_eq_true rfl) d_C_init_41 (fun H locs hP hD hS => ?_)
  have hP : va_P D classes ([(h0, .inr (0, [.int 0, .ref q_1, .ref q_3, .ref q_6, .ref q_8, .ref q_11, .null, .null, .null, .int 0, .int 0, .int 0, .int 0])), (q_1, .inl (cI, 24, .inl (fun _ => 0))), (q_3, .inl (cI, 24, .inl (fun _ => 0))), (q_6, .inl (cZ, 24, .inl (fun _ => 0))), (q_8, .inl (cI, 20, .inl (fun _ => 0))), (q_11, .inl (cI, 20, .inl (fun _ => 0)))]) H := hP
  have hD : va_D A ([(h0, .inr (0, [.int 0, .ref q_1, .ref q_3, .ref q_6, .ref q_8, .ref q_11, .null, .null, .null, .int 0, .int 0, .int 0, .int 0])), (q_1, .inl (cI, 24, .inl (fun _ => 0))), (q_3, .inl (cI, 24, .inl (fun _ => 0))), (q_6, .inl (cZ, 24, .inl (fun _ => 0))), (q_8, .inl (cI, 20, .inl (fun _ => 0))), (q_11, .inl (cI, 20, .inl (fun _ => 0)))]) := hD
  refine lv_aload_n hx hb d_C_init_44 rfl (lv_at hl 0 rfl) ?_
  refine lv_iconst (v := (2 : Int32)) hx hb d_C_init_45 (by decide) ?_
  refine va_newa (atype := .boolean) (a0 := (2, .inl (fun _ => 0))) (ty := .boolean) hx hb (hts _ (kM kw_14bcb724)) rfl hK hP hD hS hA (fun _ => rfl) (by decide) (by decide) (by decide) (Nat.le_of_ble_eq_true rfl) (Nat.le_of_ble_eq_true rfl) d_C_init_46 (fun q_14 cA_16 H hK hP hD hS => ?_)
  obtain rfl : cZ = cA_16 := Option.some.inj ((va_nm_boolean (hK.2 1 _ rfl).2).symm.trans (va_nm_boolean (hK.2 2 _ rfl).2))
  have hK : va_K D classes [(cI, .int), (cZ, .boolean)] s := hK.sub [0, 1] rfl
  have hP : va_P D classes ([(h0, .inr (0, [.int 0, .ref q_1, .ref q_3, .ref q_6, .ref q_8, .ref q_11, .null, .null, .null, .int 0, .int 0, .int 0, .int 0])), (q_1, .inl (cI, 24, .inl (fun _ => 0))), (q_3, .inl (cI, 24, .inl (fun _ => 0))), (q_6, .inl (cZ, 24, .inl (fun _ => 0))), (q_8, .inl (cI, 20, .inl (fun _ => 0))), (q_11, .inl (cI, 20, .inl (fun _ => 0))), (q_14, .inl (cZ, 2, .inl (fun _ => 0)))]) H := hP
  have hD : va_D A ([(h0, .inr (0, [.int 0, .ref q_1, .ref q_3, .ref q_6, .ref q_8, .ref q_11, .null, .null, .null, .int 0, .int 0, .int 0, .int 0])), (q_1, .inl (cI, 24, .inl (fun _ => 0))), (q_3, .inl (cI, 24, .inl (fun _ => 0))), (q_6, .inl (cZ, 24, .inl (fun _ => 0))), (q_8, .inl (cI, 20, .inl (fun _ => 0))), (q_11, .inl (cI, 20, .inl (fun _ => 0))), (q_14, .inl (cZ, 2, .inl (fun _ => 0)))]) := hD
  refine va_putF (D := D) (ci := 0) (v := .ref q_14) (ty := (t_C 6)) (C := R_C) (T := F_C) (N := 13) hx hb hts (iK iW_C) t_C t_C_ok n_C hown hK hP hD hS 0 rfl rfl 6 (by decide) (hts _ (kM kw_16524bf0)) (fun _ h9 => h9) rfl hin rfl (by decide +kernel) rfl rfl (Nat.le_of_ble_eq_true rfl) d_C_init_48 (fun H locs hP hD hS => ?_)
  have hP : va_P D classes ([(h0, .inr (0, [.int 0, .ref q_1, .ref q_3, .ref q_6, .ref q_8, .ref q_11, .ref q_14, .null, .null, .int 0, .int 0, .int 0, .int 0])), (q_1, .inl (cI, 24, .inl (fun _ => 0))), (q_3, .inl (cI, 24, .inl (fun _ => 0))), (q_6, .inl (cZ, 24, .inl (fun _ => 0))), (q_8, .inl (cI, 20, .inl (fun _ => 0))), (q_11, .inl (cI, 20, .inl (fun _ => 0))), (q_14, .inl (cZ, 2, .inl (fun _ => 0)))]) H := hP
  have hD : va_D A ([(h0, .inr (0, [.int 0, .ref q_1, .ref q_3, .ref q_6, .ref q_8, .ref q_11, .ref q_14, .null, .null, .int 0, .int 0, .int 0, .int 0])), (q_1, .inl (cI, 24, .inl (fun _ => 0))), (q_3, .inl (cI, 24, .inl (fun _ => 0))), (q_6, .inl (cZ, 24, .inl (fun _ => 0))), (q_8, .inl (cI, 20, .inl (fun _ => 0))), (q_11, .inl (cI, 20, .inl (fun _ => 0))), (q_14, .inl (cZ, 2, .inl (fun _ => 0)))]) := hD
  refine lv_aload_n hx hb d_C_init_51 rfl (lv_at hl 0 rfl) ?_
  refine lv_bipush (v := (8 : Int32)) hx hb d_C_init_52 (by decide) ?_
  refine va_newa (atype := .int) (a0 := (8, .inl (fun _ => 0))) (ty := .int) hx hb (hts _ (kM kw_8e969fb2)) rfl hK hP hD hS hA (fun _ => rfl) (by decide) (by decide) (by decide) (Nat.le_of_ble_eq_true rfl) (Nat.le_of_ble_eq_true rfl) d_C_init_54 (fun q_17 cA_19 H hK hP hD hS => ?_)
  obtain rfl : cI = cA_19 := Option.some.inj ((va_nm_int (hK.2 0 _ rfl).2).symm.trans (va_nm_int (hK.2 2 _ rfl).2))
  have hK : va_K D classes [(cI, .int), (cZ, .boolean)] s := hK.sub [0, 1] rfl
  have hP : va_P D classes ([(h0, .inr (0, [.int 0, .ref q_1, .ref q_3, .ref q_6, .ref q_8, .ref q_11, .ref q_14, .null, .null, .int 0, .int 0, .int 0, .int 0])), (q_1, .inl (cI, 24, .inl (fun _ => 0))), (q_3, .inl (cI, 24, .inl (fun _ => 0))), (q_6, .inl (cZ, 24, .inl (fun _ => 0))), (q_8, .inl (cI, 20, .inl (fun _ => 0))), (q_11, .inl (cI, 20, .inl (fun _ => 0))), (q_14, .inl (cZ, 2, .inl (fun _ => 0))), (q_17, .inl (cI, 8, .inl (fun _ => 0)))]) H := hP
  have hD : va_D A ([(h0, .inr (0, [.int 0, .ref q_1, .ref q_3, .ref q_6, .ref q_8, .ref q_11, .ref q_14, .null, .null, .int 0, .int 0, .int 0, .int 0])), (q_1, .inl (cI, 24, .inl (fun _ => 0))), (q_3, .inl (cI, 24, .inl (fun _ => 0))), (q_6, .inl (cZ, 24, .inl (fun _ => 0))), (q_8, .inl (cI, 20, .inl (fun _ => 0))), (q_11, .inl (cI, 20, .inl (fun _ => 0))), (q_14, .inl (cZ, 2, .inl (fun _ => 0))), (q_17, .inl (cI, 8, .inl (fun _ => 0)))]) := hD
  refine va_putF (D := D) (ci := 0) (v := .ref q_17) (ty := (t_C 7)) (C := R_C) (T := F_C) (N := 13) hx hb hts (iK iW_C) t_C t_C_ok n_C hown hK hP hD hS 0 rfl rfl 7 (by decide) (hts _ (kM kw_01782700)) (fun _ h9 => h9) rfl hin rfl (by decide +kernel) rfl rfl (Nat.le_of_ble_eq_true rfl) d_C_init_56 (fun H locs hP hD hS => ?_)
  have hP : va_P D classes ([(h0, .inr (0, [.int 0, .ref q_1, .ref q_3, .ref q_6, .ref q_8, .ref q_11, .ref q_14, .ref q_17, .null, .int 0, .int 0, .int 0, .int 0])), (q_1, .inl (cI, 24, .inl (fun _ => 0))), (q_3, .inl (cI, 24, .inl (fun _ => 0))), (q_6, .inl (cZ, 24, .inl (fun _ => 0))), (q_8, .inl (cI, 20, .inl (fun _ => 0))), (q_11, .inl (cI, 20, .inl (fun _ => 0))), (q_14, .inl (cZ, 2, .inl (fun _ => 0))), (q_17, .inl (cI, 8, .inl (fun _ => 0)))]) H := hP
  have hD : va_D A ([(h0, .inr (0, [.int 0, .ref q_1, .ref q_3, .ref q_6, .ref q_8, .ref q_11, .ref q_14, .ref q_17, .null, .int 0, .int 0, .int 0, .int 0])), (q_1, .inl (cI, 24, .inl (fun _ => 0))), (q_3, .inl (cI, 24, .inl (fun _ => 0))), (q_6, .inl (cZ, 24, .inl (fun _ => 0))), (q_8, .inl (cI, 20, .inl (fun _ => 0))), (q_11, .inl (cI, 20, .inl (fun _ => 0))), (q_14, .inl (cZ, 2, .inl (fun _ => 0))), (q_17, .inl (cI, 8, .inl (fun _ => 0)))]) := hD
  refine lv_aload_n hx hb d_C_init_59 rfl (lv_at hl 0 rfl) ?_
  refine lv_iconst (v := (0 : Int32)) hx hb d_C_init_60 (by decide) ?_
  refine lv_bipush (v := (24 : Int32)) hx hb d_C_init_61 (by decide) ?_
  refine lv_iload_n hx hb d_C_init_63 rfl (lv_at hl 1 rfl) ?_
  refine va_mmin hx hb (hml.trans hl.1.symm) hown (hts _ (kM kw_7bbf47ee)) (hts _ (kM kw_1a05fe57)) (hts _ (kM kw_0001fcaa)) (hts _ (kM kw_5e99ca5e)) (Nat.le_of_ble_eq_true rfl) (Nat.le_of_ble_eq_true rfl) (Nat.le_of_ble_eq_true rfl) (Nat.le_of_ble_eq_true rfl) d_C_init_64 ?_
  refine va_mmax hx hb (hml.trans hl.1.symm) hown (hts _ (kM kw_7cc1363c)) (hts _ (kM kw_7cc87a9f)) (hts _ (kM kw_0001fcaa)) (hts _ (kM kw_6b973c1b)) (Nat.le_of_ble_eq_true rfl) (Nat.le_of_ble_eq_true rfl) (Nat.le_of_ble_eq_true rfl) (Nat.le_of_ble_eq_true rfl) d_C_init_67 ?_
  refine va_putF (D := D) (ci := 0) (v := .int (if (0 : Int32) < (if x1 < (24 : Int32) then x1 else (24 : Int32)) then (if x1 < (24 : Int32) then x1 else (24 : Int32)) else (0 : Int32))) (ty := .int) (C := R_C) (T := F_C) (N := 13) hx hb hts (iK iW_C) t_C t_C_ok n_C hown hK hP hD hS 0 rfl rfl 0 (by decide) (hts _ (kM kw_e5f6e787)) (fun _ h9 => h9) rfl hin rfl (by decide +kernel) rfl rfl (Nat.le_of_ble_eq_true rfl) d_C_init_70 (fun H locs hP hD hS => ?_)
  have hP : va_P D classes ([(h0, .inr (0, [.int (if (0 : Int32) < (if x1 < (24 : Int32) then x1 else (24 : Int32)) then (if x1 < (24 : Int32) then x1 else (24 : Int32)) else (0 : Int32)), .ref q_1, .ref q_3, .ref q_6, .ref q_8, .ref q_11, .ref q_14, .ref q_17, .null, .int 0, .int 0, .int 0, .int 0])), (q_1, .inl (cI, 24, .inl (fun _ => 0))), (q_3, .inl (cI, 24, .inl (fun _ => 0))), (q_6, .inl (cZ, 24, .inl (fun _ => 0))), (q_8, .inl (cI, 20, .inl (fun _ => 0))), (q_11, .inl (cI, 20, .inl (fun _ => 0))), (q_14, .inl (cZ, 2, .inl (fun _ => 0))), (q_17, .inl (cI, 8, .inl (fun _ => 0)))]) H := hP
  have hD : va_D A ([(h0, .inr (0, [.int (if (0 : Int32) < (if x1 < (24 : Int32) then x1 else (24 : Int32)) then (if x1 < (24 : Int32) then x1 else (24 : Int32)) else (0 : Int32)), .ref q_1, .ref q_3, .ref q_6, .ref q_8, .ref q_11, .ref q_14, .ref q_17, .null, .int 0, .int 0, .int 0, .int 0])), (q_1, .inl (cI, 24, .inl (fun _ => 0))), (q_3, .inl (cI, 24, .inl (fun _ => 0))), (q_6, .inl (cZ, 24, .inl (fun _ => 0))), (q_8, .inl (cI, 20, .inl (fun _ => 0))), (q_11, .inl (cI, 20, .inl (fun _ => 0))), (q_14, .inl (cZ, 2, .inl (fun _ => 0))), (q_17, .inl (cI, 8, .inl (fun _ => 0)))]) := hD
  refine lv_aload_n hx hb d_C_init_73 rfl (lv_at hl 0 rfl) ?_
  refine va_new (ci := 1) (fs := [.int 0, .null, .null, .null, .null, .null, .int 0, .int 0, .int 0]) (C := R_P) (T := F_P) (N := 9) hx hb hts (iK iW_P) t_P t_P_ok hown (hts _ (kM kw_aeaad32e)) (hts _ (kM kw_cf97c395)) (hts _ (kM kw_9924c1cf)) hK hP hD hS hA rfl (fun j hj => by rcases (show j = 0 ∨ j = 1 ∨ j = 2 ∨ j = 3 ∨ j = 4 ∨ j = 5 ∨ j = 6 ∨ j = 7 ∨ j = 8 by omega) with rfl | rfl | rfl | rfl | rfl | rfl | rfl | rfl | rfl <;> rfl) (Nat.le_of_ble_eq_true rfl) (Nat.le_of_ble_eq_true rfl) d_C_init_74 (fun q_20 H hP hD hS => ?_)
  have hP : va_P D classes ([(h0, .inr (0, [.int (if (0 : Int32) < (if x1 < (24 : Int32) then x1 else (24 : Int32)) then (if x1 < (24 : Int32) then x1 else (24 : Int32)) else (0 : Int32)), .ref q_1, .ref q_3, .ref q_6, .ref q_8, .ref q_11, .ref q_14, .ref q_17, .null, .int 0, .int 0, .int 0, .int 0])), (q_1, .inl (cI, 24, .inl (fun _ => 0))), (q_3, .inl (cI, 24, .inl (fun _ => 0))), (q_6, .inl (cZ, 24, .inl (fun _ => 0))), (q_8, .inl (cI, 20, .inl (fun _ => 0))), (q_11, .inl (cI, 20, .inl (fun _ => 0))), (q_14, .inl (cZ, 2, .inl (fun _ => 0))), (q_17, .inl (cI, 8, .inl (fun _ => 0))), (q_20, .inr (1, [.int 0, .null, .null, .null, .null, .null, .int 0, .int 0, .int 0]))]) H := hP
  have hD : va_D A ([(h0, .inr (0, [.int (if (0 : Int32) < (if x1 < (24 : Int32) then x1 else (24 : Int32)) then (if x1 < (24 : Int32) then x1 else (24 : Int32)) else (0 : Int32)), .ref q_1, .ref q_3, .ref q_6, .ref q_8, .ref q_11, .ref q_14, .ref q_17, .null, .int 0, .int 0, .int 0, .int 0])), (q_1, .inl (cI, 24, .inl (fun _ => 0))), (q_3, .inl (cI, 24, .inl (fun _ => 0))), (q_6, .inl (cZ, 24, .inl (fun _ => 0))), (q_8, .inl (cI, 20, .inl (fun _ => 0))), (q_11, .inl (cI, 20, .inl (fun _ => 0))), (q_14, .inl (cZ, 2, .inl (fun _ => 0))), (q_17, .inl (cI, 8, .inl (fun _ => 0))), (q_20, .inr (1, [.int 0, .null, .null, .null, .null, .null, .int 0, .int 0, .int 0]))]) := hD
  refine lv_dup hx hb d_C_init_77 rfl ?_
  refine lv_aload_n hx hb d_C_init_78 rfl (lv_at hl 0 rfl) ?_
  refine va_get (D := D) (ci := 0) (v := .int (if (0 : Int32) < (if x1 < (24 : Int32) then x1 else (24 : Int32)) then (if x1 < (24 : Int32) then x1 else (24 : Int32)) else (0 : Int32))) (C := R_C) (T := F_C) (N := 13) hx hb hts (iK iW_C) hown hK hP 0 rfl rfl 0 (by decide) (hts _ (kM kw_e5f6e787)) (fun _ h9 => h9) rfl d_C_init_79 ?_
  have hPc := hP.sub (ws' := [(q_20, .inr (1, [.int 0, .null, .null, .null, .null, .null, .int 0, .int 0, .int 0]))]) [8] rfl
  have hDc := hD.sub (ws' := [(q_20, .inr (1, [.int 0, .null, .null, .null, .null, .null, .int 0, .int 0, .int 0]))]) [8] (by decide) rfl
  have hFc := va_free (wc := [(q_20, .inr (1, [.int 0, .null, .null, .null, .null, .null, .int 0, .int 0, .int 0]))]) hD hS hA [8] rfl
  have hKc : va_K D classes [(cI, .int), (cZ, .boolean)] s := hK.sub [0, 1] rfl
  refine va_callv (va_runIN (As := [.int (if (0 : Int32) < (if x1 < (24 : Int32) then x1 else (24 : Int32)) then (if x1 < (24 : Int32) then x1 else (24 : Int32)) else (0 : Int32))]) (rest := [.ref q_20, .ref h0]) ⟨hx, hb, hml, hown, hts⟩ (c_P_init hw) ⟨va_cnB 1 hts (gC k_P_init) rfl rfl rfl (hZ.m (.methodLinkNest R_C 47 y_P_init R_C) (by decide +kernel)) (hts _ (kM kw_9924c1cf)) (by decide +kernel) ⟨(Nat.le_of_ble_eq_true rfl), (Nat.le_of_ble_eq_true rfl)⟩, rfl, (hts _ (kM kw_1aaf7749))⟩ ⟨kP.blind, kP.of hKc hPc hDc hZ hS hFc⟩ rfl rfl hl.1 rfl (lv_room (Nat.le_of_ble_eq_true rfl)) d_C_init_82 ⟨(Nat.le_of_ble_eq_true rfl), (Nat.le_of_ble_eq_true rfl)⟩) hS (fun q _ h => hFc q h) hFc (fun u t H1 locs ht hvm hw hB hz1 hk1 hS => ?_)
  obtain ⟨al_21, ring_22, stops_23, fewest_24, isExact_25, shelves_26, stopPlaces_27, taken_28, trial_29, best_30⟩ := u
  obtain ⟨hP1, hK1, hD1⟩ := hB
  try dsimp only at hw hP1 hK1 hD1
  rw [ht] at hP1
  have hK1 := va_K.moved hvm.symm hK1
  obtain ⟨hP, hD⟩ := va_join (wr := [(h0, .inr (0, [.int (if (0 : Int32) < (if x1 < (24 : Int32) then x1 else (24 : Int32)) then (if x1 < (24 : Int32) then x1 else (24 : Int32)) else (0 : Int32)), .ref q_1, .ref q_3, .ref q_6, .ref q_8, .ref q_11, .ref q_14, .ref q_17, .null, .int 0, .int 0, .int 0, .int 0])), (q_1, .inl (cI, 24, .inl (fun _ => 0))), (q_3, .inl (cI, 24, .inl (fun _ => 0))), (q_6, .inl (cZ, 24, .inl (fun _ => 0))), (q_8, .inl (cI, 20, .inl (fun _ => 0))), (q_11, .inl (cI, 20, .inl (fun _ => 0))), (q_14, .inl (cZ, 2, .inl (fun _ => 0))), (q_17, .inl (cI, 8, .inl (fun _ => 0)))]) (w1 := pW (adP q_20 al_21) cI cZ ring_22 stops_23 fewest_24 isExact_25 shelves_26 stopPlaces_27 taken_28 trial_29 best_30) hP hD [8] [0, 1, 2, 3, 4, 5, 6, 7] rfl rfl (by decide) (by decide) hk1 hFc hP1 hD1
  generalize H1 = H at hP hS ⊢
  have hP : va_P D classes ([(h0, .inr (0, [.int (if (0 : Int32) < (if x1 < (24 : Int32) then x1 else (24 : Int32)) then (if x1 < (24 : Int32) then x1 else (24 : Int32)) else (0 : Int32)), .ref q_1, .ref q_3, .ref q_6, .ref q_8, .ref q_11, .ref q_14, .ref q_17, .null, .int 0, .int 0, .int 0, .int 0])), (q_1, .inl (cI, 24, .inl (fun _ => 0))), (q_3, .inl (cI, 24, .inl (fun _ => 0))), (q_6, .inl (cZ, 24, .inl (fun _ => 0))), (q_8, .inl (cI, 20, .inl (fun _ => 0))), (q_11, .inl (cI, 20, .inl (fun _ => 0))), (q_14, .inl (cZ, 2, .inl (fun _ => 0))), (q_17, .inl (cI, 8, .inl (fun _ => 0))), (q_20, .inr (1, [.int ring_22, .ref (al_21.getD 0 0), .ref (al_21.getD 1 0), .ref (al_21.getD 2 0), .ref (al_21.getD 3 0), .ref (al_21.getD 4 0), .int stops_23, .int fewest_24, .int isExact_25])), ((al_21.getD 0 0), .inl (cI, 8, .inl shelves_26)), ((al_21.getD 1 0), .inl (cI, 8, .inl stopPlaces_27)), ((al_21.getD 2 0), .inl (cZ, 8, .inl taken_28)), ((al_21.getD 3 0), .inl (cI, 8, .inl trial_29)), ((al_21.getD 4 0), .inl (cI, 8, .inl best_30))]) H := hP
  have hD : va_D A ([(h0, .inr (0, [.int (if (0 : Int32) < (if x1 < (24 : Int32) then x1 else (24 : Int32)) then (if x1 < (24 : Int32) then x1 else (24 : Int32)) else (0 : Int32)), .ref q_1, .ref q_3, .ref q_6, .ref q_8, .ref q_11, .ref q_14, .ref q_17, .null, .int 0, .int 0, .int 0, .int 0])), (q_1, .inl (cI, 24, .inl (fun _ => 0))), (q_3, .inl (cI, 24, .inl (fun _ => 0))), (q_6, .inl (cZ, 24, .inl (fun _ => 0))), (q_8, .inl (cI, 20, .inl (fun _ => 0))), (q_11, .inl (cI, 20, .inl (fun _ => 0))), (q_14, .inl (cZ, 2, .inl (fun _ => 0))), (q_17, .inl (cI, 8, .inl (fun _ => 0))), (q_20, .inr (1, [.int ring_22, .ref (al_21.getD 0 0), .ref (al_21.getD 1 0), .ref (al_21.getD 2 0), .ref (al_21.getD 3 0), .ref (al_21.getD 4 0), .int stops_23, .int fewest_24, .int isExact_25])), ((al_21.getD 0 0), .inl (cI, 8, .inl shelves_26)), ((al_21.getD 1 0), .inl (cI, 8, .inl stopPlaces_27)), ((al_21.getD 2 0), .inl (cZ, 8, .inl taken_28)), ((al_21.getD 3 0), .inl (cI, 8, .inl trial_29)), ((al_21.getD 4 0), .inl (cI, 8, .inl best_30))]) := hD
  refine va_putF (D := D) (ci := 0) (v := .ref q_20) (ty := (t_C 8)) (C := R_C) (T := F_C) (N := 13) hx hb hts (iK iW_C) t_C t_C_ok n_C hown hK hP hD hS 0 rfl rfl 8 (by decide) (hts _ (kM kw_e53eb332)) (fun _ h9 => h9) rfl hin rfl (by decide +kernel) rfl rfl (Nat.le_of_ble_eq_true rfl) d_C_init_85 (fun H locs hP hD hS => ?_)
  have hP : va_P D classes ([(h0, .inr (0, [.int (if (0 : Int32) < (if x1 < (24 : Int32) then x1 else (24 : Int32)) then (if x1 < (24 : Int32) then x1 else (24 : Int32)) else (0 : Int32)), .ref q_1, .ref q_3, .ref q_6, .ref q_8, .ref q_11, .ref q_14, .ref q_17, .ref q_20, .int 0, .int 0, .int 0, .int 0])), (q_1, .inl (cI, 24, .inl (fun _ => 0))), (q_3, .inl (cI, 24, .inl (fun _ => 0))), (q_6, .inl (cZ, 24, .inl (fun _ => 0))), (q_8, .inl (cI, 20, .inl (fun _ => 0))), (q_11, .inl (cI, 20, .inl (fun _ => 0))), (q_14, .inl (cZ, 2, .inl (fun _ => 0))), (q_17, .inl (cI, 8, .inl (fun _ => 0))), (q_20, .inr (1, [.int ring_22, .ref (al_21.getD 0 0), .ref (al_21.getD 1 0), .ref (al_21.getD 2 0), .ref (al_21.getD 3 0), .ref (al_21.getD 4 0), .int stops_23, .int fewest_24, .int isExact_25])), ((al_21.getD 0 0), .inl (cI, 8, .inl shelves_26)), ((al_21.getD 1 0), .inl (cI, 8, .inl stopPlaces_27)), ((al_21.getD 2 0), .inl (cZ, 8, .inl taken_28)), ((al_21.getD 3 0), .inl (cI, 8, .inl trial_29)), ((al_21.getD 4 0), .inl (cI, 8, .inl best_30))]) H := hP
  have hD : va_D A ([(h0, .inr (0, [.int (if (0 : Int32) < (if x1 < (24 : Int32) then x1 else (24 : Int32)) then (if x1 < (24 : Int32) then x1 else (24 : Int32)) else (0 : Int32)), .ref q_1, .ref q_3, .ref q_6, .ref q_8, .ref q_11, .ref q_14, .ref q_17, .ref q_20, .int 0, .int 0, .int 0, .int 0])), (q_1, .inl (cI, 24, .inl (fun _ => 0))), (q_3, .inl (cI, 24, .inl (fun _ => 0))), (q_6, .inl (cZ, 24, .inl (fun _ => 0))), (q_8, .inl (cI, 20, .inl (fun _ => 0))), (q_11, .inl (cI, 20, .inl (fun _ => 0))), (q_14, .inl (cZ, 2, .inl (fun _ => 0))), (q_17, .inl (cI, 8, .inl (fun _ => 0))), (q_20, .inr (1, [.int ring_22, .ref (al_21.getD 0 0), .ref (al_21.getD 1 0), .ref (al_21.getD 2 0), .ref (al_21.getD 3 0), .ref (al_21.getD 4 0), .int stops_23, .int fewest_24, .int isExact_25])), ((al_21.getD 0 0), .inl (cI, 8, .inl shelves_26)), ((al_21.getD 1 0), .inl (cI, 8, .inl stopPlaces_27)), ((al_21.getD 2 0), .inl (cZ, 8, .inl taken_28)), ((al_21.getD 3 0), .inl (cI, 8, .inl trial_29)), ((al_21.getD 4 0), .inl (cI, 8, .inl best_30))]) := hD
  refine lv_iconst (v := (0 : Int32)) hx hb d_C_init_88 (by decide) ?_
  refine lv_istore_n (lv' := [(2, .int (0 : Int32)), (0, .ref h0), (1, .int x1)]) hx hb d_C_init_89 rfl hl (by decide) rfl (fun ls hl => ?_)
  obtain ⟨K_90, hK_90⟩ : ∃ z : Int32 → (Nat → Int32) → (Nat → Int32) → Prop, z = (fun (k_40 : Int32) (k_41 : Nat → Int32) (k_42 : Nat → Int32) => (∃ n, p_C_init_L118 (fun (k_49 : Int32) (k_50 : Nat → Int32) => post (if (0 : Int32) < (if x1 < (24 : Int32) then x1 else (24 : Int32)) then (if x1 < (24 : Int32) then x1 else (24 : Int32)) else (0 : Int32)) 0 0 0 0 k_41 k_42 (fun _ => 0) k_50 (fun _ => 0) (fun _ => 0) (fun _ => 0) ring_22 stops_23 fewest_24 isExact_25 shelves_26 stopPlaces_27 taken_28 trial_29 best_30) n (0 : Int32) (fun _ => 0))) := ⟨_, rfl⟩
  have hw : ∃ n, p_C_init_L90 K_90 n (0 : Int32) (fun _ => 0) (fun _ => 0) := by rw [hK_90]; exact hw
  obtain ⟨n_90, hw⟩ := hw
  have key_90 : ∀ (n : Nat) (x2_34 : Int32) (placeOf_35 : Nat → Int32) (shelfAt_36 : Nat → Int32) (H : Heap) (locs : List Loc) (ls : Array Slot), p_C_init_L90 K_90 n x2_34 placeOf_35 shelfAt_36 → va_P D classes ([(h0, .inr (0, [.int (if (0 : Int32) < (if x1 < (24 : Int32) then x1 else (24 : Int32)) then (if x1 < (24 : Int32) then x1 else (24 : Int32)) else (0 : Int32)), .ref q_1, .ref q_3, .ref q_6, .ref q_8, .ref q_11, .ref q_14, .ref q_17, .ref q_20, .int 0, .int 0, .int 0, .int 0])), (q_1, .inl (cI, 24, .inl placeOf_35)), (q_3, .inl (cI, 24, .inl shelfAt_36)), (q_6, .inl (cZ, 24, .inl (fun _ => 0))), (q_8, .inl (cI, 20, .inl (fun _ => 0))), (q_11, .inl (cI, 20, .inl (fun _ => 0))), (q_14, .inl (cZ, 2, .inl (fun _ => 0))), (q_17, .inl (cI, 8, .inl (fun _ => 0))), (q_20, .inr (1, [.int ring_22, .ref (al_21.getD 0 0), .ref (al_21.getD 1 0), .ref (al_21.getD 2 0), .ref (al_21.getD 3 0), .ref (al_21.getD 4 0), .int stops_23, .int fewest_24, .int isExact_25])), ((al_21.getD 0 0), .inl (cI, 8, .inl shelves_26)), ((al_21.getD 1 0), .inl (cI, 8, .inl stopPlaces_27)), ((al_21.getD 2 0), .inl (cZ, 8, .inl taken_28)), ((al_21.getD 3 0), .inl (cI, 8, .inl trial_29)), ((al_21.getD 4 0), .inl (cI, 8, .inl best_30))]) H → va_D A ([(h0, .inr (0, [.int (if (0 : Int32) < (if x1 < (24 : Int32) then x1 else (24 : Int32)) then (if x1 < (24 : Int32) then x1 else (24 : Int32)) else (0 : Int32)), .ref q_1, .ref q_3, .ref q_6, .ref q_8, .ref q_11, .ref q_14, .ref q_17, .ref q_20, .int 0, .int 0, .int 0, .int 0])), (q_1, .inl (cI, 24, .inl placeOf_35)), (q_3, .inl (cI, 24, .inl shelfAt_36)), (q_6, .inl (cZ, 24, .inl (fun _ => 0))), (q_8, .inl (cI, 20, .inl (fun _ => 0))), (q_11, .inl (cI, 20, .inl (fun _ => 0))), (q_14, .inl (cZ, 2, .inl (fun _ => 0))), (q_17, .inl (cI, 8, .inl (fun _ => 0))), (q_20, .inr (1, [.int ring_22, .ref (al_21.getD 0 0), .ref (al_21.getD 1 0), .ref (al_21.getD 2 0), .ref (al_21.getD 3 0), .ref (al_21.getD 4 0), .int stops_23, .int fewest_24, .int isExact_25])), ((al_21.getD 0 0), .inl (cI, 8, .inl shelves_26)), ((al_21.getD 1 0), .inl (cI, 8, .inl stopPlaces_27)), ((al_21.getD 2 0), .inl (cZ, 8, .inl taken_28)), ((al_21.getD 3 0), .inl (cI, 8, .inl trial_29)), ((al_21.getD 4 0), .inl (cI, 8, .inl best_30))]) → va_S A s.heap H locs → lv_has ls 3 [(2, .int x2_34), (0, .ref h0), (1, .int x1)] → W p l e (headSpec w_C_init rm_C_init).room s m ([.ref h0, .int x1] : List Value).toArray below meth c H locs 13 171 (MQ below (va_Qv (fun (u : List Nat × ClassId × ClassId × Int32 × Int32 × Int32 × Int32 × Int32 × (Nat → Int32) × (Nat → Int32) × (Nat → Int32) × (Nat → Int32) × (Nat → Int32) × (Nat → Int32) × (Nat → Int32) × Int32 × Int32 × Int32 × Int32 × (Nat → Int32) × (Nat → Int32) × (Nat → Int32) × (Nat → Int32) × (Nat → Int32)) => post u.2.2.2.1 u.2.2.2.2.1 u.2.2.2.2.2.1 u.2.2.2.2.2.2.1 u.2.2.2.2.2.2.2.1 u.2.2.2.2.2.2.2.2.1 u.2.2.2.2.2.2.2.2.2.1 u.2.2.2.2.2.2.2.2.2.2.1 u.2.2.2.2.2.2.2.2.2.2.2.1 u.2.2.2.2.2.2.2.2.2.2.2.2.1 u.2.2.2.2.2.2.2.2.2.2.2.2.2.1 u.2.2.2.2.2.2.2.2.2.2.2.2.2.2.1 u.2.2.2.2.2.2.2.2.2.2.2.2.2.2.2.1 u.2.2.2.2.2.2.2.2.2.2.2.2.2.2.2.2.1 u.2.2.2.2.2.2.2.2.2.2.2.2.2.2.2.2.2.1 u.2.2.2.2.2.2.2.2.2.2.2.2.2.2.2.2.2.2.1 u.2.2.2.2.2.2.2.2.2.2.2.2.2.2.2.2.2.2.2.1 u.2.2.2.2.2.2.2.2.2.2.2.2.2.2.2.2.2.2.2.2.1 u.2.2.2.2.2.2.2.2.2.2.2.2.2.2.2.2.2.2.2.2.2.1 u.2.2.2.2.2.2.2.2.2.2.2.2.2.2.2.2.2.2.2.2.2.2.1 u.2.2.2.2.2.2.2.2.2.2.2.2.2.2.2.2.2.2.2.2.2.2.2) (fun (u : List Nat × ClassId × ClassId × Int32 × Int32 × Int32 × Int32 × Int32 × (Nat → Int32) × (Nat → Int32) × (Nat → Int32) × (Nat → Int32) × (Nat → Int32) × (Nat → Int32) × (Nat → Int32) × Int32 × Int32 × Int32 × Int32 × (Nat → Int32) × (Nat → Int32) × (Nat → Int32) × (Nat → Int32) × (Nat → Int32)) t => va_P D classes (cW (adC h0 u.1) u.2.1 u.2.2.1 u.2.2.2.1 u.2.2.2.2.1 u.2.2.2.2.2.1 u.2.2.2.2.2.2.1 u.2.2.2.2.2.2.2.1 u.2.2.2.2.2.2.2.2.1 u.2.2.2.2.2.2.2.2.2.1 u.2.2.2.2.2.2.2.2.2.2.1 u.2.2.2.2.2.2.2.2.2.2.2.1 u.2.2.2.2.2.2.2.2.2.2.2.2.1 u.2.2.2.2.2.2.2.2.2.2.2.2.2.1 u.2.2.2.2.2.2.2.2.2.2.2.2.2.2.1 u.2.2.2.2.2.2.2.2.2.2.2.2.2.2.2.1 u.2.2.2.2.2.2.2.2.2.2.2.2.2.2.2.2.1 u.2.2.2.2.2.2.2.2.2.2.2.2.2.2.2.2.2.1 u.2.2.2.2.2.2.2.2.2.2.2.2.2.2.2.2.2.2.1 u.2.2.2.2.2.2.2.2.2.2.2.2.2.2.2.2.2.2.2.1 u.2.2.2.2.2.2.2.2.2.2.2.2.2.2.2.2.2.2.2.2.1 u.2.2.2.2.2.2.2.2.2.2.2.2.2.2.2.2.2.2.2.2.2.1 u.2.2.2.2.2.2.2.2.2.2.2.2.2.2.2.2.2.2.2.2.2.2.1 u.2.2.2.2.2.2.2.2.2.2.2.2.2.2.2.2.2.2.2.2.2.2.2) t.heap ∧ va_K D classes [(u.2.1, .int), (u.2.2.1, .boolean)] t ∧ va_D A (cW (adC h0 u.1) u.2.1 u.2.2.1 u.2.2.2.1 u.2.2.2.2.1 u.2.2.2.2.2.1 u.2.2.2.2.2.2.1 u.2.2.2.2.2.2.2.1 u.2.2.2.2.2.2.2.2.1 u.2.2.2.2.2.2.2.2.2.1 u.2.2.2.2.2.2.2.2.2.2.1 u.2.2.2.2.2.2.2.2.2.2.2.1 u.2.2.2.2.2.2.2.2.2.2.2.2.1 u.2.2.2.2.2.2.2.2.2.2.2.2.2.1 u.2.2.2.2.2.2.2.2.2.2.2.2.2.2.1 u.2.2.2.2.2.2.2.2.2.2.2.2.2.2.2.1 u.2.2.2.2.2.2.2.2.2.2.2.2.2.2.2.2.1 u.2.2.2.2.2.2.2.2.2.2.2.2.2.2.2.2.2.1 u.2.2.2.2.2.2.2.2.2.2.2.2.2.2.2.2.2.2.1 u.2.2.2.2.2.2.2.2.2.2.2.2.2.2.2.2.2.2.2.1 u.2.2.2.2.2.2.2.2.2.2.2.2.2.2.2.2.2.2.2.2.1 u.2.2.2.2.2.2.2.2.2.2.2.2.2.2.2.2.2.2.2.2.2.1 u.2.2.2.2.2.2.2.2.2.2.2.2.2.2.2.2.2.2.2.2.2.2.1 u.2.2.2.2.2.2.2.2.2.2.2.2.2.2.2.2.2.2.2.2.2.2.2)) A) ([.ref h0, .int x1] : List Value).toArray s 13 171 A) (F0 m 90 ls []) := by
    intro n
    induction n with
    | zero => intro x2_34 placeOf_35 shelfAt_36 H locs ls hw hP hD hS hl; exact hw.elim
    | succ n ih_90 =>
      intro x2_34 placeOf_35 shelfAt_36 H locs ls hw hP hD hS hl
      have hw : p_C_init_L90_B K_90 (p_C_init_L90 K_90 n) x2_34 placeOf_35 shelfAt_36 := hw
      generalize p_C_init_L90 K_90 n = rec_90 at hw ih_90
      refine lv_iload_n hx hb d_C_init_90 rfl (lv_at hl 0 rfl) ?_
      refine lv_bipush (v := (24 : Int32)) hx hb d_C_init_91 (by decide) ?_
      refine lv_icmp_ge (tgt := 116) hx hb d_C_init_93 (by decide) (fun c_37 => ?_) (fun c_37 => ?_)
      · have hw := hw.1 c_37
        rw [hK_90] at hw
        have hl : lv_has ls 3 [(2, .int x2_34), (0, .ref h0), (1, .int x1)] := lv_sub hl [0, 1, 2] rfl
        refine lv_iconst (v := (0 : Int32)) hx hb d_C_init_116 (by decide) ?_
        refine lv_istore_n (lv' := [(2, .int (0 : Int32)), (0, .ref h0), (1, .int x1)]) hx hb d_C_init_117 rfl hl (by decide) rfl (fun ls hl => ?_)
        obtain ⟨K_118, hK_118⟩ : ∃ z : Int32 → (Nat → Int32) → Prop, z = (fun (k_49 : Int32) (k_50 : Nat → Int32) => post (if (0 : Int32) < (if x1 < (24 : Int32) then x1 else (24 : Int32)) then (if x1 < (24 : Int32) then x1 else (24 : Int32)) else (0 : Int32)) 0 0 0 0 placeOf_35 shelfAt_36 (fun _ => 0) k_50 (fun _ => 0) (fun _ => 0) (fun _ => 0) ring_22 stops_23 fewest_24 isExact_25 shelves_26 stopPlaces_27 taken_28 trial_29 best_30) := ⟨_, rfl⟩
        have hw : ∃ n, p_C_init_L118 K_118 n (0 : Int32) (fun _ => 0) := by rw [hK_118]; exact hw
        obtain ⟨n_118, hw⟩ := hw
        have key_118 : ∀ (n : Nat) (x2_45 : Int32) (shelfOf_46 : Nat → Int32) (H : Heap) (locs : List Loc) (ls : Array Slot), p_C_init_L118 K_118 n x2_45 shelfOf_46 → va_P D classes ([(h0, .inr (0, [.int (if (0 : Int32) < (if x1 < (24 : Int32) then x1 else (24 : Int32)) then (if x1 < (24 : Int32) then x1 else (24 : Int32)) else (0 : Int32)), .ref q_1, .ref q_3, .ref q_6, .ref q_8, .ref q_11, .ref q_14, .ref q_17, .ref q_20, .int 0, .int 0, .int 0, .int 0])), (q_1, .inl (cI, 24, .inl placeOf_35)), (q_3, .inl (cI, 24, .inl shelfAt_36)), (q_6, .inl (cZ, 24, .inl (fun _ => 0))), (q_8, .inl (cI, 20, .inl shelfOf_46)), (q_11, .inl (cI, 20, .inl (fun _ => 0))), (q_14, .inl (cZ, 2, .inl (fun _ => 0))), (q_17, .inl (cI, 8, .inl (fun _ => 0))), (q_20, .inr (1, [.int ring_22, .ref (al_21.getD 0 0), .ref (al_21.getD 1 0), .ref (al_21.getD 2 0), .ref (al_21.getD 3 0), .ref (al_21.getD 4 0), .int stops_23, .int fewest_24, .int isExact_25])), ((al_21.getD 0 0), .inl (cI, 8, .inl shelves_26)), ((al_21.getD 1 0), .inl (cI, 8, .inl stopPlaces_27)), ((al_21.getD 2 0), .inl (cZ, 8, .inl taken_28)), ((al_21.getD 3 0), .inl (cI, 8, .inl trial_29)), ((al_21.getD 4 0), .inl (cI, 8, .inl best_30))]) H → va_D A ([(h0, .inr (0, [.int (if (0 : Int32) < (if x1 < (24 : Int32) then x1 else (24 : Int32)) then (if x1 < (24 : Int32) then x1 else (24 : Int32)) else (0 : Int32)), .ref q_1, .ref q_3, .ref q_6, .ref q_8, .ref q_11, .ref q_14, .ref q_17, .ref q_20, .int 0, .int 0, .int 0, .int 0])), (q_1, .inl (cI, 24, .inl placeOf_35)), (q_3, .inl (cI, 24, .inl shelfAt_36)), (q_6, .inl (cZ, 24, .inl (fun _ => 0))), (q_8, .inl (cI, 20, .inl shelfOf_46)), (q_11, .inl (cI, 20, .inl (fun _ => 0))), (q_14, .inl (cZ, 2, .inl (fun _ => 0))), (q_17, .inl (cI, 8, .inl (fun _ => 0))), (q_20, .inr (1, [.int ring_22, .ref (al_21.getD 0 0), .ref (al_21.getD 1 0), .ref (al_21.getD 2 0), .ref (al_21.getD 3 0), .ref (al_21.getD 4 0), .int stops_23, .int fewest_24, .int isExact_25])), ((al_21.getD 0 0), .inl (cI, 8, .inl shelves_26)), ((al_21.getD 1 0), .inl (cI, 8, .inl stopPlaces_27)), ((al_21.getD 2 0), .inl (cZ, 8, .inl taken_28)), ((al_21.getD 3 0), .inl (cI, 8, .inl trial_29)), ((al_21.getD 4 0), .inl (cI, 8, .inl best_30))]) → va_S A s.heap H locs → lv_has ls 3 [(2, .int x2_45), (0, .ref h0), (1, .int x1)] → W p l e (headSpec w_C_init rm_C_init).room s m ([.ref h0, .int x1] : List Value).toArray below meth c H locs 13 171 (MQ below (va_Qv (fun (u : List Nat × ClassId × ClassId × Int32 × Int32 × Int32 × Int32 × Int32 × (Nat → Int32) × (Nat → Int32) × (Nat → Int32) × (Nat → Int32) × (Nat → Int32) × (Nat → Int32) × (Nat → Int32) × Int32 × Int32 × Int32 × Int32 × (Nat → Int32) × (Nat → Int32) × (Nat → Int32) × (Nat → Int32) × (Nat → Int32)) => post u.2.2.2.1 u.2.2.2.2.1 u.2.2.2.2.2.1 u.2.2.2.2.2.2.1 u.2.2.2.2.2.2.2.1 u.2.2.2.2.2.2.2.2.1 u.2.2.2.2.2.2.2.2.2.1 u.2.2.2.2.2.2.2.2.2.2.1 u.2.2.2.2.2.2.2.2.2.2.2.1 u.2.2.2.2.2.2.2.2.2.2.2.2.1 u.2.2.2.2.2.2.2.2.2.2.2.2.2.1 u.2.2.2.2.2.2.2.2.2.2.2.2.2.2.1 u.2.2.2.2.2.2.2.2.2.2.2.2.2.2.2.1 u.2.2.2.2.2.2.2.2.2.2.2.2.2.2.2.2.1 u.2.2.2.2.2.2.2.2.2.2.2.2.2.2.2.2.2.1 u.2.2.2.2.2.2.2.2.2.2.2.2.2.2.2.2.2.2.1 u.2.2.2.2.2.2.2.2.2.2.2.2.2.2.2.2.2.2.2.1 u.2.2.2.2.2.2.2.2.2.2.2.2.2.2.2.2.2.2.2.2.1 u.2.2.2.2.2.2.2.2.2.2.2.2.2.2.2.2.2.2.2.2.2.1 u.2.2.2.2.2.2.2.2.2.2.2.2.2.2.2.2.2.2.2.2.2.2.1 u.2.2.2.2.2.2.2.2.2.2.2.2.2.2.2.2.2.2.2.2.2.2.2) (fun (u : List Nat × ClassId × ClassId × Int32 × Int32 × Int32 × Int32 × Int32 × (Nat → Int32) × (Nat → Int32) × (Nat → Int32) × (Nat → Int32) × (Nat → Int32) × (Nat → Int32) × (Nat → Int32) × Int32 × Int32 × Int32 × Int32 × (Nat → Int32) × (Nat → Int32) × (Nat → Int32) × (Nat → Int32) × (Nat → Int32)) t => va_P D classes (cW (adC h0 u.1) u.2.1 u.2.2.1 u.2.2.2.1 u.2.2.2.2.1 u.2.2.2.2.2.1 u.2.2.2.2.2.2.1 u.2.2.2.2.2.2.2.1 u.2.2.2.2.2.2.2.2.1 u.2.2.2.2.2.2.2.2.2.1 u.2.2.2.2.2.2.2.2.2.2.1 u.2.2.2.2.2.2.2.2.2.2.2.1 u.2.2.2.2.2.2.2.2.2.2.2.2.1 u.2.2.2.2.2.2.2.2.2.2.2.2.2.1 u.2.2.2.2.2.2.2.2.2.2.2.2.2.2.1 u.2.2.2.2.2.2.2.2.2.2.2.2.2.2.2.1 u.2.2.2.2.2.2.2.2.2.2.2.2.2.2.2.2.1 u.2.2.2.2.2.2.2.2.2.2.2.2.2.2.2.2.2.1 u.2.2.2.2.2.2.2.2.2.2.2.2.2.2.2.2.2.2.1 u.2.2.2.2.2.2.2.2.2.2.2.2.2.2.2.2.2.2.2.1 u.2.2.2.2.2.2.2.2.2.2.2.2.2.2.2.2.2.2.2.2.1 u.2.2.2.2.2.2.2.2.2.2.2.2.2.2.2.2.2.2.2.2.2.1 u.2.2.2.2.2.2.2.2.2.2.2.2.2.2.2.2.2.2.2.2.2.2.1 u.2.2.2.2.2.2.2.2.2.2.2.2.2.2.2.2.2.2.2.2.2.2.2) t.heap ∧ va_K D classes [(u.2.1, .int), (u.2.2.1, .boolean)] t ∧ va_D A (cW (adC h0 u.1) u.2.1 u.2.2.1 u.2.2.2.1 u.2.2.2.2.1 u.2.2.2.2.2.1 u.2.2.2.2.2.2.1 u.2.2.2.2.2.2.2.1 u.2.2.2.2.2.2.2.2.1 u.2.2.2.2.2.2.2.2.2.1 u.2.2.2.2.2.2.2.2.2.2.1 u.2.2.2.2.2.2.2.2.2.2.2.1 u.2.2.2.2.2.2.2.2.2.2.2.2.1 u.2.2.2.2.2.2.2.2.2.2.2.2.2.1 u.2.2.2.2.2.2.2.2.2.2.2.2.2.2.1 u.2.2.2.2.2.2.2.2.2.2.2.2.2.2.2.1 u.2.2.2.2.2.2.2.2.2.2.2.2.2.2.2.2.1 u.2.2.2.2.2.2.2.2.2.2.2.2.2.2.2.2.2.1 u.2.2.2.2.2.2.2.2.2.2.2.2.2.2.2.2.2.2.1 u.2.2.2.2.2.2.2.2.2.2.2.2.2.2.2.2.2.2.2.1 u.2.2.2.2.2.2.2.2.2.2.2.2.2.2.2.2.2.2.2.2.1 u.2.2.2.2.2.2.2.2.2.2.2.2.2.2.2.2.2.2.2.2.2.1 u.2.2.2.2.2.2.2.2.2.2.2.2.2.2.2.2.2.2.2.2.2.2.1 u.2.2.2.2.2.2.2.2.2.2.2.2.2.2.2.2.2.2.2.2.2.2.2)) A) ([.ref h0, .int x1] : List Value).toArray s 13 171 A) (F0 m 118 ls []) := by
          intro n
          induction n with
          | zero => intro x2_45 shelfOf_46 H locs ls hw hP hD hS hl; exact hw.elim
          | succ n ih_118 =>
            intro x2_45 shelfOf_46 H locs ls hw hP hD hS hl
            have hw : p_C_init_L118_B K_118 (p_C_init_L118 K_118 n) x2_45 shelfOf_46 := hw
            generalize p_C_init_L118 K_118 n = rec_118 at hw ih_118
            refine lv_iload_n hx hb d_C_init_118 rfl (lv_at hl 0 rfl) ?_
            refine lv_bipush (v := (20 : Int32)) hx hb d_C_init_119 (by decide) ?_
            refine lv_icmp_ge (tgt := 137) hx hb d_C_init_121 (by decide) (fun c_47 => ?_) (fun c_47 => ?_)
            · have hw := hw.1 c_47
              rw [hK_118] at hw
              have hl : lv_has ls 3 [(2, .int x2_45), (0, .ref h0), (1, .int x1)] := lv_sub hl [0, 1, 2] rfl
              have hP9 := hP.sub (ws' := cW (adC h0 [q_1, q_3, q_6, q_8, q_11, q_14, q_17, q_20, (al_21.getD 0 0), (al_21.getD 1 0), (al_21.getD 2 0), (al_21.getD 3 0), (al_21.getD 4 0)]) cI cZ (if (0 : Int32) < (if x1 < (24 : Int32) then x1 else (24 : Int32)) then (if x1 < (24 : Int32) then x1 else (24 : Int32)) else (0 : Int32)) 0 0 0 0 placeOf_35 shelfAt_36 (fun _ => 0) shelfOf_46 (fun _ => 0) (fun _ => 0) (fun _ => 0) ring_22 stops_23 fewest_24 isExact_25 shelves_26 stopPlaces_27 taken_28 trial_29 best_30) [0, 1, 2, 3, 4, 5, 6, 7, 8, 9, 10, 11, 12, 13] rfl
              have hD9 := hD.sub (ws' := cW (adC h0 [q_1, q_3, q_6, q_8, q_11, q_14, q_17, q_20, (al_21.getD 0 0), (al_21.getD 1 0), (al_21.getD 2 0), (al_21.getD 3 0), (al_21.getD 4 0)]) cI cZ (if (0 : Int32) < (if x1 < (24 : Int32) then x1 else (24 : Int32)) then (if x1 < (24 : Int32) then x1 else (24 : Int32)) else (0 : Int32)) 0 0 0 0 placeOf_35 shelfAt_36 (fun _ => 0) shelfOf_46 (fun _ => 0) (fun _ => 0) (fun _ => 0) ring_22 stops_23 fewest_24 isExact_25 shelves_26 stopPlaces_27 taken_28 trial_29 best_30) [0, 1, 2, 3, 4, 5, 6, 7, 8, 9, 10, 11, 12, 13] (by decide) rfl
              have hK9 : va_K D classes [(cI, .int), (cZ, .boolean)] s := hK.sub [0, 1] rfl
              exact W.vret hx hb hr (fun t ht hW => ⟨⟨([q_1, q_3, q_6, q_8, q_11, q_14, q_17, q_20, (al_21.getD 0 0), (al_21.getD 1 0), (al_21.getD 2 0), (al_21.getD 3 0), (al_21.getD 4 0)], cI, cZ, (if (0 : Int32) < (if x1 < (24 : Int32) then x1 else (24 : Int32)) then (if x1 < (24 : Int32) then x1 else (24 : Int32)) else (0 : Int32)), 0, 0, 0, 0, placeOf_35, shelfAt_36, (fun _ => 0), shelfOf_46, (fun _ => 0), (fun _ => 0), (fun _ => 0), ring_22, stops_23, fewest_24, isExact_25, shelves_26, stopPlaces_27, taken_28, trial_29, best_30), rfl, hw, by rw [ht]; exact hP9, va_K.moved hW.alike hK9, hD9⟩, hS.F ht⟩) hS.2.2 d_C_init_137
            · have hw := hw.2 c_47
              refine lv_aload_n hx hb d_C_init_124 rfl (lv_at hl 1 rfl) ?_
              refine va_get (D := D) (ci := 0) (v := .ref q_8) (C := R_C) (T := F_C) (N := 13) hx hb hts (iK iW_C) hown hK hP 0 rfl rfl 4 (by decide) (hts _ (kM kw_03cac826)) (fun _ h9 => h9) rfl d_C_init_125 ?_
              refine lv_iload_n hx hb d_C_init_128 rfl (lv_at hl 0 rfl) ?_
              refine lv_iconst (v := (-1 : Int32)) hx hb d_C_init_129 (by decide) ?_
              obtain ⟨h_48, hw⟩ := hw
              refine va_iast hx hb hK hP hD hS 4 0 rfl rfl h_48 d_C_init_130 (fun H locs hP hD hS => ?_)
              have hP : va_P D classes ([(h0, .inr (0, [.int (if (0 : Int32) < (if x1 < (24 : Int32) then x1 else (24 : Int32)) then (if x1 < (24 : Int32) then x1 else (24 : Int32)) else (0 : Int32)), .ref q_1, .ref q_3, .ref q_6, .ref q_8, .ref q_11, .ref q_14, .ref q_17, .ref q_20, .int 0, .int 0, .int 0, .int 0])), (q_1, .inl (cI, 24, .inl placeOf_35)), (q_3, .inl (cI, 24, .inl shelfAt_36)), (q_6, .inl (cZ, 24, .inl (fun _ => 0))), (q_8, .inl (cI, 20, .inl (upd shelfOf_46 (x2_45).toNatClampNeg (-1 : Int32)))), (q_11, .inl (cI, 20, .inl (fun _ => 0))), (q_14, .inl (cZ, 2, .inl (fun _ => 0))), (q_17, .inl (cI, 8, .inl (fun _ => 0))), (q_20, .inr (1, [.int ring_22, .ref (al_21.getD 0 0), .ref (al_21.getD 1 0), .ref (al_21.getD 2 0), .ref (al_21.getD 3 0), .ref (al_21.getD 4 0), .int stops_23, .int fewest_24, .int isExact_25])), ((al_21.getD 0 0), .inl (cI, 8, .inl shelves_26)), ((al_21.getD 1 0), .inl (cI, 8, .inl stopPlaces_27)), ((al_21.getD 2 0), .inl (cZ, 8, .inl taken_28)), ((al_21.getD 3 0), .inl (cI, 8, .inl trial_29)), ((al_21.getD 4 0), .inl (cI, 8, .inl best_30))]) H := hP
              have hD : va_D A ([(h0, .inr (0, [.int (if (0 : Int32) < (if x1 < (24 : Int32) then x1 else (24 : Int32)) then (if x1 < (24 : Int32) then x1 else (24 : Int32)) else (0 : Int32)), .ref q_1, .ref q_3, .ref q_6, .ref q_8, .ref q_11, .ref q_14, .ref q_17, .ref q_20, .int 0, .int 0, .int 0, .int 0])), (q_1, .inl (cI, 24, .inl placeOf_35)), (q_3, .inl (cI, 24, .inl shelfAt_36)), (q_6, .inl (cZ, 24, .inl (fun _ => 0))), (q_8, .inl (cI, 20, .inl (upd shelfOf_46 (x2_45).toNatClampNeg (-1 : Int32)))), (q_11, .inl (cI, 20, .inl (fun _ => 0))), (q_14, .inl (cZ, 2, .inl (fun _ => 0))), (q_17, .inl (cI, 8, .inl (fun _ => 0))), (q_20, .inr (1, [.int ring_22, .ref (al_21.getD 0 0), .ref (al_21.getD 1 0), .ref (al_21.getD 2 0), .ref (al_21.getD 3 0), .ref (al_21.getD 4 0), .int stops_23, .int fewest_24, .int isExact_25])), ((al_21.getD 0 0), .inl (cI, 8, .inl shelves_26)), ((al_21.getD 1 0), .inl (cI, 8, .inl stopPlaces_27)), ((al_21.getD 2 0), .inl (cZ, 8, .inl taken_28)), ((al_21.getD 3 0), .inl (cI, 8, .inl trial_29)), ((al_21.getD 4 0), .inl (cI, 8, .inl best_30))]) := hD
              refine lv_iinc (v := (x2_45 + 1)) (lv' := [(2, .int (x2_45 + 1)), (0, .ref h0), (1, .int x1)]) hx hb d_C_init_131 hl (k := 0) rfl rfl (by decide) rfl (fun ls hl => ?_)
              refine lv_goto (tgt := 118) hx hb d_C_init_134 (by decide) ?_
              exact ih_118 (x2_45 + 1) (upd shelfOf_46 (x2_45).toNatClampNeg (-1 : Int32)) _ _ _ hw hP hD hS (lv_sub hl [0, 1, 2] rfl)
        exact key_118 n_118 (0 : Int32) (fun _ => 0) _ _ _ hw hP hD hS (lv_sub hl [0, 1, 2] rfl)
      · have hw := hw.2 c_37
        refine lv_aload_n hx hb d_C_init_96 rfl (lv_at hl 1 rfl) ?_
        refine va_get (D := D) (ci := 0) (v := .ref q_1) (C := R_C) (T := F_C) (N := 13) hx hb hts (iK iW_C) hown hK hP 0 rfl rfl 1 (by decide) (hts _ (kM kw_47d73e1c)) (fun _ h9 => h9) rfl d_C_init_97 ?_
        refine lv_iload_n hx hb d_C_init_100 rfl (lv_at hl 0 rfl) ?_
        refine lv_iload_n hx hb d_C_init_101 rfl (lv_at hl 0 rfl) ?_
        obtain ⟨h_38, hw⟩ := hw
        refine va_iast hx hb hK hP hD hS 1 0 rfl rfl h_38 d_C_init_102 (fun H locs hP hD hS => ?_)
        have hP : va_P D classes ([(h0, .inr (0, [.int (if (0 : Int32) < (if x1 < (24 : Int32) then x1 else (24 : Int32)) then (if x1 < (24 : Int32) then x1 else (24 : Int32)) else (0 : Int32)), .ref q_1, .ref q_3, .ref q_6, .ref q_8, .ref q_11, .ref q_14, .ref q_17, .ref q_20, .int 0, .int 0, .int 0, .int 0])), (q_1, .inl (cI, 24, .inl (upd placeOf_35 (x2_34).toNatClampNeg x2_34))), (q_3, .inl (cI, 24, .inl shelfAt_36)), (q_6, .inl (cZ, 24, .inl (fun _ => 0))), (q_8, .inl (cI, 20, .inl (fun _ => 0))), (q_11, .inl (cI, 20, .inl (fun _ => 0))), (q_14, .inl (cZ, 2, .inl (fun _ => 0))), (q_17, .inl (cI, 8, .inl (fun _ => 0))), (q_20, .inr (1, [.int ring_22, .ref (al_21.getD 0 0), .ref (al_21.getD 1 0), .ref (al_21.getD 2 0), .ref (al_21.getD 3 0), .ref (al_21.getD 4 0), .int stops_23, .int fewest_24, .int isExact_25])), ((al_21.getD 0 0), .inl (cI, 8, .inl shelves_26)), ((al_21.getD 1 0), .inl (cI, 8, .inl stopPlaces_27)), ((al_21.getD 2 0), .inl (cZ, 8, .inl taken_28)), ((al_21.getD 3 0), .inl (cI, 8, .inl trial_29)), ((al_21.getD 4 0), .inl (cI, 8, .inl best_30))]) H := hP
        have hD : va_D A ([(h0, .inr (0, [.int (if (0 : Int32) < (if x1 < (24 : Int32) then x1 else (24 : Int32)) then (if x1 < (24 : Int32) then x1 else (24 : Int32)) else (0 : Int32)), .ref q_1, .ref q_3, .ref q_6, .ref q_8, .ref q_11, .ref q_14, .ref q_17, .ref q_20, .int 0, .int 0, .int 0, .int 0])), (q_1, .inl (cI, 24, .inl (upd placeOf_35 (x2_34).toNatClampNeg x2_34))), (q_3, .inl (cI, 24, .inl shelfAt_36)), (q_6, .inl (cZ, 24, .inl (fun _ => 0))), (q_8, .inl (cI, 20, .inl (fun _ => 0))), (q_11, .inl (cI, 20, .inl (fun _ => 0))), (q_14, .inl (cZ, 2, .inl (fun _ => 0))), (q_17, .inl (cI, 8, .inl (fun _ => 0))), (q_20, .inr (1, [.int ring_22, .ref (al_21.getD 0 0), .ref (al_21.getD 1 0), .ref (al_21.getD 2 0), .ref (al_21.getD 3 0), .ref (al_21.getD 4 0), .int stops_23, .int fewest_24, .int isExact_25])), ((al_21.getD 0 0), .inl (cI, 8, .inl shelves_26)), ((al_21.getD 1 0), .inl (cI, 8, .inl stopPlaces_27)), ((al_21.getD 2 0), .inl (cZ, 8, .inl taken_28)), ((al_21.getD 3 0), .inl (cI, 8, .inl trial_29)), ((al_21.getD 4 0), .inl (cI, 8, .inl best_30))]) := hD
        refine lv_aload_n hx hb d_C_init_103 rfl (lv_at hl 1 rfl) ?_
        refine va_get (D := D) (ci := 0) (v := .ref q_3) (C := R_C) (T := F_C) (N := 13) hx hb hts (iK iW_C) hown hK hP 0 rfl rfl 2 (by decide) (hts _ (kM kw_99734f87)) (fun _ h9 => h9) rfl d_C_init_104 ?_
        refine lv_iload_n hx hb d_C_init_107 rfl (lv_at hl 0 rfl) ?_
        refine lv_iload_n hx hb d_C_init_108 rfl (lv_at hl 0 rfl) ?_
        obtain ⟨h_39, hw⟩ := hw
        refine va_iast hx hb hK hP hD hS 2 0 rfl rfl h_39 d_C_init_109 (fun H locs hP hD hS => ?_)
        have hP : va_P D classes ([(h0, .inr (0, [.int (if (0 : Int32) < (if x1 < (24 : Int32) then x1 else (24 : Int32)) then (if x1 < (24 : Int32) then x1 else (24 : Int32)) else (0 : Int32)), .ref q_1, .ref q_3, .ref q_6, .ref q_8, .ref q_11, .ref q_14, .ref q_17, .ref q_20, .int 0, .int 0, .int 0, .int 0])), (q_1, .inl (cI, 24, .inl (upd placeOf_35 (x2_34).toNatClampNeg x2_34))), (q_3, .inl (cI, 24, .inl (upd shelfAt_36 (x2_34).toNatClampNeg x2_34))), (q_6, .inl (cZ, 24, .inl (fun _ => 0))), (q_8, .inl (cI, 20, .inl (fun _ => 0))), (q_11, .inl (cI, 20, .inl (fun _ => 0))), (q_14, .inl (cZ, 2, .inl (fun _ => 0))), (q_17, .inl (cI, 8, .inl (fun _ => 0))), (q_20, .inr (1, [.int ring_22, .ref (al_21.getD 0 0), .ref (al_21.getD 1 0), .ref (al_21.getD 2 0), .ref (al_21.getD 3 0), .ref (al_21.getD 4 0), .int stops_23, .int fewest_24, .int isExact_25])), ((al_21.getD 0 0), .inl (cI, 8, .inl shelves_26)), ((al_21.getD 1 0), .inl (cI, 8, .inl stopPlaces_27)), ((al_21.getD 2 0), .inl (cZ, 8, .inl taken_28)), ((al_21.getD 3 0), .inl (cI, 8, .inl trial_29)), ((al_21.getD 4 0), .inl (cI, 8, .inl best_30))]) H := hP
        have hD : va_D A ([(h0, .inr (0, [.int (if (0 : Int32) < (if x1 < (24 : Int32) then x1 else (24 : Int32)) then (if x1 < (24 : Int32) then x1 else (24 : Int32)) else (0 : Int32)), .ref q_1, .ref q_3, .ref q_6, .ref q_8, .ref q_11, .ref q_14, .ref q_17, .ref q_20, .int 0, .int 0, .int 0, .int 0])), (q_1, .inl (cI, 24, .inl (upd placeOf_35 (x2_34).toNatClampNeg x2_34))), (q_3, .inl (cI, 24, .inl (upd shelfAt_36 (x2_34).toNatClampNeg x2_34))), (q_6, .inl (cZ, 24, .inl (fun _ => 0))), (q_8, .inl (cI, 20, .inl (fun _ => 0))), (q_11, .inl (cI, 20, .inl (fun _ => 0))), (q_14, .inl (cZ, 2, .inl (fun _ => 0))), (q_17, .inl (cI, 8, .inl (fun _ => 0))), (q_20, .inr (1, [.int ring_22, .ref (al_21.getD 0 0), .ref (al_21.getD 1 0), .ref (al_21.getD 2 0), .ref (al_21.getD 3 0), .ref (al_21.getD 4 0), .int stops_23, .int fewest_24, .int isExact_25])), ((al_21.getD 0 0), .inl (cI, 8, .inl shelves_26)), ((al_21.getD 1 0), .inl (cI, 8, .inl stopPlaces_27)), ((al_21.getD 2 0), .inl (cZ, 8, .inl taken_28)), ((al_21.getD 3 0), .inl (cI, 8, .inl trial_29)), ((al_21.getD 4 0), .inl (cI, 8, .inl best_30))]) := hD
        refine lv_iinc (v := (x2_34 + 1)) (lv' := [(2, .int (x2_34 + 1)), (0, .ref h0), (1, .int x1)]) hx hb d_C_init_110 hl (k := 0) rfl rfl (by decide) rfl (fun ls hl => ?_)
        refine lv_goto (tgt := 90) hx hb d_C_init_113 (by decide) ?_
        exact ih_90 (x2_34 + 1) (upd placeOf_35 (x2_34).toNatClampNeg x2_34) (upd shelfAt_36 (x2_34).toNatClampNeg x2_34) _ _ _ hw hP hD hS (lv_sub hl [0, 1, 2] rfl)
  exact key_90 n_90 (0 : Int32) (fun _ => 0) (fun _ => 0) _ _ _ hw hP hD hS (lv_sub hl [0, 1, 2] rfl)
def p_C_needPlaces (places : Int32) (post : Prop) (pex : String → Prop) : Prop := ((¬ places = 0 → post) ∧ (places = 0 → pex "java/lang/ArithmeticException"))
abbrev rm_C_needPlaces : Room := { frames := 6, cells := 1, slots := 6, locals := 100 }
set_option maxHeartbeats 4000000 in
set_option maxRecDepth 100000 in
theorem c_C_needPlaces {l : Launch} (hl9 : l.stackTraces = false) {D : va_G} {sa : Nat → Nat} {cI cZ : ClassId} {sz : Nat} {a : Nat → Nat} {places : Int32} {listed : Int32} {front : Int32} {turns : Int32} {fetched : Int32} {placeOf : Nat → Int32} {shelfAt : Nat → Int32} {isBlocked : Nat → Int32} {shelfOf : Nat → Int32} {counts : Nat → Int32} {isOpen : Nat → Int32} {list : Nat → Int32} {ring : Int32} {stops : Int32} {fewest : Int32} {isExact : Int32} {shelves : Nat → Int32} {stopPlaces : Nat → Int32} {taken : Nat → Int32} {trial : Nat → Int32} {best : Nat → Int32} {post : Prop} {pex : String → Prop} (hw : p_C_needPlaces places post pex) : vx_Met l y_C_needPlaces w_C_needPlaces rm_C_needPlaces (va_Pc [.ref (a 0)] (kP D sa [(cI, .int), (cZ, .boolean)] (cW a cI cZ places listed front turns fetched placeOf shelfAt isBlocked shelfOf counts isOpen list ring stops fewest isExact shelves stopPlaces taken trial best) sz)) (va_Qv (fun (u : Unit) => post) (fun (u : Unit) t => va_P D classes (cW a cI cZ places listed front turns fetched placeOf shelfAt isBlocked shelfOf counts isOpen list ring stops fewest isExact shelves stopPlaces taken trial best) t.heap ∧ va_K D classes [(cI, .int), (cZ, .boolean)] t ∧ va_D (va_A (cW a cI cZ places listed front turns fetched placeOf shelfAt isBlocked shelfOf counts isOpen list ring stops fewest isExact shelves stopPlaces taken trial best) sz) (cW a cI cZ places listed front turns fetched placeOf shelfAt isBlocked shelfOf counts isOpen list ring stops fewest isExact shelves stopPlaces taken trial best)) (va_A (cW a cI cZ places listed front turns fetched placeOf shelfAt isBlocked shelfOf counts isOpen list ring stops fewest isExact shelves stopPlaces taken trial best) sz)) (vx_X (fun (u : String) => pex u) (fun E (u : String) t => u = E ∧ va_P D classes (cW a cI cZ places listed front turns fetched placeOf shelfAt isBlocked shelfOf counts isOpen list ring stops fewest isExact shelves stopPlaces taken trial best) t.heap ∧ va_K D classes [(cI, .int), (cZ, .boolean)] t ∧ va_D (va_A (cW a cI cZ places listed front turns fetched placeOf shelfAt isBlocked shelfOf counts isOpen list ring stops fewest isExact shelves stopPlaces taken trial best) sz) (cW a cI cZ places listed front turns fetched placeOf shelfAt isBlocked shelfOf counts isOpen list ring stops fewest isExact shelves stopPlaces taken trial best)) (va_A (cW a cI cZ places listed front turns fetched placeOf shelfAt isBlocked shelfOf counts isOpen list ring stops fewest isExact shelves stopPlaces taken trial best) sz)) 1 6 (va_A (cW a cI cZ places listed front turns fetched placeOf shelfAt isBlocked shelfOf counts isOpen list ring stops fewest isExact shelves stopPlaces taken trial best) sz) := by
  refine vx_ofW (cc := b_C_needPlaces) (maxL := 1) (ret := none) (by decide) rfl ?_
  intro p e s m args below meth c s₁ B hml hEx hv
  obtain ⟨rfl, hsz, hP, hK, hD0, hZ⟩ := hv
  have hx := B.exec
  have hb := B.bytes
  have hr := B.returns
  have hts := atoms_spec (ws := w_C_needPlaces) B.pre
  have hown : s.vm.findClass R_C = some m.cls := findClass_of_methodNamed B.named
  have hlocks := B.notSynchronized
  subst hsz
  have hD := hD0.self (sz := s.heap.size)
  generalize hAe : (va_A (cW a cI cZ places listed front turns fetched placeOf shelfAt isBlocked shelfOf counts isOpen list ring stops fewest isExact shelves stopPlaces taken trial best) s.heap.size) = A at hD hZ ⊢
  have hA : ∀ q : Nat, s.heap.size ≤ q → A q := fun q h => by rw [← hAe]; exact Or.inr h
  have hS : va_S A s.heap s.heap [] := va_S.rf
  have hl := lv_entry ([.ref (a 0)]) (n := 1) (Nat.le_of_ble_eq_true rfl)
  rw [lg_entry_eq]
  generalize (lg_sl ([.ref (a 0)]) ++ List.replicate (1 - (lg_sl ([.ref (a 0)])).length) Slot.unset).toArray = ls at hl ⊢
  have hl : lv_has ls 1 [(0, .ref (a 0))] := hl
  refine lv_aload_n hx hb d_C_needPlaces_0 rfl (lv_at hl 0 rfl) ?_
  refine va_get (D := D) (ci := 0) (v := .int places) (C := R_C) (T := F_C) (N := 13) hx hb hts (iK iW_C) hown hK hP 0 rfl rfl 0 (by decide) (hts _ (kM kw_e5f6e787)) (fun _ h9 => h9) rfl d_C_needPlaces_1 ?_
  refine lv_if_ne (tgt := 17) hx hb d_C_needPlaces_4 (by decide) (fun c_1 => ?_) (fun c_1 => ?_)
  · have hw := hw.1 c_1
    refine W.widen (k := 1) (n := 6) (Nat.le_of_ble_eq_true rfl) (Nat.le_of_ble_eq_true rfl) ?_
    refine vx_ret ?_
    exact W.vret hx hb hr (fun t ht hW => ⟨⟨(), rfl, hw, by rw [ht]; exact hP, va_K.moved hW.alike hK, hD⟩, hS.F ht⟩) hS.2.2 d_C_needPlaces_17
  · have hw := hw.2 c_1
    exact vx_throwS (own := R_C) (cls := "java/lang/ArithmeticException") (names := exN) hx hb hl9 hown (by decide +kernel) (by decide +kernel) (hts _ (kM kw_a5dd1584)) (hts _ (kM kw_c3a505c8)) (hZ.s 4 rfl) (ta_C_ArithmeticException (fun w h => hts w (kM h)) hZ) tg_C_ArithmeticException hZ.u hZ.n hS (hl.1.trans hml.symm) d_C_needPlaces_7 d_C_needPlaces_10 d_C_needPlaces_11 d_C_needPlaces_13 d_C_needPlaces_16 (fun x hx => (hEx x hx).elim) (Nat.le_of_ble_eq_true rfl) (Nat.le_of_ble_eq_true rfl) (Nat.le_of_ble_eq_true rfl) (Nat.le_of_ble_eq_true rfl) hlocks (fun t ha hsz hk => ⟨"java/lang/ArithmeticException", hw, ⟨rfl, hP.kept (fun k q hq => hk q.1 (hP k q hq).lt), va_K.moved ha hK, hD⟩, Nat.le_trans hS.1 hsz, fun q h1 h2 => (hk q (Nat.lt_of_lt_of_le h1 hS.1)).trans (hS.2.1 q h1 h2)⟩) hS.2.2 (Nat.le_of_ble_eq_true rfl) (Nat.le_of_ble_eq_true rfl)
def p_C_needClosedDoors_L2_B (isOpen : Nat → Int32) (pex : String → Prop) (K_2 : Int32 → Prop) (rec_2 : Int32 → Prop) (x1_2 : Int32) : Prop := (((2 : Int32) ≤ x1_2 → K_2 x1_2) ∧ (¬ (2 : Int32) ≤ x1_2 → (vp_in x1_2 2 ∧ (((isOpen (x1_2).toNatClampNeg) = 0 → rec_2 (x1_2 + 1)) ∧ (¬ (isOpen (x1_2).toNatClampNeg) = 0 → pex "java/lang/IllegalStateException")))))
def p_C_needClosedDoors_L2 (isOpen : Nat → Int32) (pex : String → Prop) (K_2 : Int32 → Prop) : Nat → Int32 → Prop
  | 0 => fun _ => False
  | n + 1 => p_C_needClosedDoors_L2_B isOpen pex K_2 (p_C_needClosedDoors_L2 isOpen pex K_2 n)
def p_C_needClosedDoors (isOpen : Nat → Int32) (post : Prop) (pex : String → Prop) : Prop := (∃ n, p_C_needClosedDoors_L2 isOpen pex (fun (k_8 : Int32) => post) n (0 : Int32))
abbrev rm_C_needClosedDoors : Room := { frames := 6, cells := 1, slots := 6, locals := 100 }
set_option maxHeartbeats 4000000 in
set_option maxRecDepth 100000 in
theorem c_C_needClosedDoors {l : Launch} (hl9 : l.stackTraces = false) {D : va_G} {sa : Nat → Nat} {cI cZ : ClassId} {sz : Nat} {a : Nat → Nat} {places : Int32} {listed : Int32} {front : Int32} {turns : Int32} {fetched : Int32} {placeOf : Nat → Int32} {shelfAt : Nat → Int32} {isBlocked : Nat → Int32} {shelfOf : Nat → Int32} {counts : Nat → Int32} {isOpen : Nat → Int32} {list : Nat → Int32} {ring : Int32} {stops : Int32} {fewest : Int32} {isExact : Int32} {shelves : Nat → Int32} {stopPlaces : Nat → Int32} {taken : Nat → Int32} {trial : Nat → Int32} {best : Nat → Int32} {post : Prop} {pex : String → Prop} (hw : p_C_needClosedDoors isOpen post pex) : vx_Met l y_C_needClosedDoors w_C_needClosedDoors rm_C_needClosedDoors (va_Pc [.ref (a 0)] (kP D sa [(cI, .int), (cZ, .boolean)] (cW a cI cZ places listed front turns fetched placeOf shelfAt isBlocked shelfOf counts isOpen list ring stops fewest isExact shelves stopPlaces taken trial best) sz)) (va_Qv (fun (u : Unit) => post) (fun (u : Unit) t => va_P D classes (cW a cI cZ places listed front turns fetched placeOf shelfAt isBlocked shelfOf counts isOpen list ring stops fewest isExact shelves stopPlaces taken trial best) t.heap ∧ va_K D classes [(cI, .int), (cZ, .boolean)] t ∧ va_D (va_A (cW a cI cZ places listed front turns fetched placeOf shelfAt isBlocked shelfOf counts isOpen list ring stops fewest isExact shelves stopPlaces taken trial best) sz) (cW a cI cZ places listed front turns fetched placeOf shelfAt isBlocked shelfOf counts isOpen list ring stops fewest isExact shelves stopPlaces taken trial best)) (va_A (cW a cI cZ places listed front turns fetched placeOf shelfAt isBlocked shelfOf counts isOpen list ring stops fewest isExact shelves stopPlaces taken trial best) sz)) (vx_X (fun (u : String) => pex u) (fun E (u : String) t => u = E ∧ va_P D classes (cW a cI cZ places listed front turns fetched placeOf shelfAt isBlocked shelfOf counts isOpen list ring stops fewest isExact shelves stopPlaces taken trial best) t.heap ∧ va_K D classes [(cI, .int), (cZ, .boolean)] t ∧ va_D (va_A (cW a cI cZ places listed front turns fetched placeOf shelfAt isBlocked shelfOf counts isOpen list ring stops fewest isExact shelves stopPlaces taken trial best) sz) (cW a cI cZ places listed front turns fetched placeOf shelfAt isBlocked shelfOf counts isOpen list ring stops fewest isExact shelves stopPlaces taken trial best)) (va_A (cW a cI cZ places listed front turns fetched placeOf shelfAt isBlocked shelfOf counts isOpen list ring stops fewest isExact shelves stopPlaces taken trial best) sz)) 1 6 (va_A (cW a cI cZ places listed front turns fetched placeOf shelfAt isBlocked shelfOf counts isOpen list ring stops fewest isExact shelves stopPlaces taken trial best) sz) := by
  refine vx_ofW (cc := b_C_needClosedDoors) (maxL := 2) (ret := none) (by decide) rfl ?_
  intro p e s m args below meth c s₁ B hml hEx hv
  obtain ⟨rfl, hsz, hP, hK, hD0, hZ⟩ := hv
  have hx := B.exec
  have hb := B.bytes
  have hr := B.returns
  have hts := atoms_spec (ws := w_C_needClosedDoors) B.pre
  have hown : s.vm.findClass R_C = some m.cls := findClass_of_methodNamed B.named
  have hlocks := B.notSynchronized
  subst hsz
  have hD := hD0.self (sz := s.heap.size)
  generalize hAe : (va_A (cW a cI cZ places listed front turns fetched placeOf shelfAt isBlocked shelfOf counts isOpen list ring stops fewest isExact shelves stopPlaces taken trial best) s.heap.size) = A at hD hZ ⊢
  have hA : ∀ q : Nat, s.heap.size ≤ q → A q := fun q h => by rw [← hAe]; exact Or.inr h
  have hS : va_S A s.heap s.heap [] := va_S.rf
  have hl := lv_entry ([.ref (a 0)]) (n := 2) (Nat.le_of_ble_eq_true rfl)
  rw [lg_entry_eq]
  generalize (lg_sl ([.ref (a 0)]) ++ List.replicate (2 - (lg_sl ([.ref (a 0)])).length) Slot.unset).toArray = ls at hl ⊢
  have hl : lv_has ls 2 [(0, .ref (a 0))] := hl
  refine lv_iconst (v := (0 : Int32)) hx hb d_C_needClosedDoors_0 (by decide) ?_
  refine lv_istore_n (lv' := [(1, .int (0 : Int32)), (0, .ref (a 0))]) hx hb d_C_needClosedDoors_1 rfl hl (by decide) rfl (fun ls hl => ?_)
  obtain ⟨K_2, hK_2⟩ : ∃ z : Int32 → Prop, z = (fun (k_8 : Int32) => post) := ⟨_, rfl⟩
  have hw : ∃ n, p_C_needClosedDoors_L2 isOpen pex K_2 n (0 : Int32) := by rw [hK_2]; exact hw
  obtain ⟨n_2, hw⟩ := hw
  have key_2 : ∀ (n : Nat) (x1_4 : Int32) (ls : Array Slot), p_C_needClosedDoors_L2 isOpen pex K_2 n x1_4 → lv_has ls 2 [(1, .int x1_4), (0, .ref (a 0))] → W p l e (headSpec w_C_needClosedDoors rm_C_needClosedDoors).room s m ([.ref (a 0)] : List Value).toArray below meth c s.heap [] 0 0 (vx_MQ below (va_Qv (fun (u : Unit) => post) (fun (u : Unit) t => va_P D classes (cW a cI cZ places listed front turns fetched placeOf shelfAt isBlocked shelfOf counts isOpen list ring stops fewest isExact shelves stopPlaces taken trial best) t.heap ∧ va_K D classes [(cI, .int), (cZ, .boolean)] t ∧ va_D A (cW a cI cZ places listed front turns fetched placeOf shelfAt isBlocked shelfOf counts isOpen list ring stops fewest isExact shelves stopPlaces taken trial best)) A) (vx_X (fun (u : String) => pex u) (fun E (u : String) t => u = E ∧ va_P D classes (cW a cI cZ places listed front turns fetched placeOf shelfAt isBlocked shelfOf counts isOpen list ring stops fewest isExact shelves stopPlaces taken trial best) t.heap ∧ va_K D classes [(cI, .int), (cZ, .boolean)] t ∧ va_D A (cW a cI cZ places listed front turns fetched placeOf shelfAt isBlocked shelfOf counts isOpen list ring stops fewest isExact shelves stopPlaces taken trial best)) A) ([.ref (a 0)] : List Value).toArray s 1 6 A) (F0 m 2 ls []) := by
    intro n
    induction n with
    | zero => intro x1_4 ls hw hl; exact hw.elim
    | succ n ih_2 =>
      intro x1_4 ls hw hl
      have hw : p_C_needClosedDoors_L2_B isOpen pex K_2 (p_C_needClosedDoors_L2 isOpen pex K_2 n) x1_4 := hw
      generalize p_C_needClosedDoors_L2 isOpen pex K_2 n = rec_2 at hw ih_2
      refine lv_iload_n hx hb d_C_needClosedDoors_2 rfl (lv_at hl 0 rfl) ?_
      refine lv_iconst (v := (2 : Int32)) hx hb d_C_needClosedDoors_3 (by decide) ?_
      refine lv_icmp_ge (tgt := 32) hx hb d_C_needClosedDoors_4 (by decide) (fun c_5 => ?_) (fun c_5 => ?_)
      · have hw := hw.1 c_5
        rw [hK_2] at hw
        have hl : lv_has ls 2 [(1, .int x1_4), (0, .ref (a 0))] := lv_sub hl [0, 1] rfl
        refine W.widen (k := 1) (n := 6) (Nat.le_of_ble_eq_true rfl) (Nat.le_of_ble_eq_true rfl) ?_
        refine vx_ret ?_
        exact W.vret hx hb hr (fun t ht hW => ⟨⟨(), rfl, hw, by rw [ht]; exact hP, va_K.moved hW.alike hK, hD⟩, hS.F ht⟩) hS.2.2 d_C_needClosedDoors_32
      · have hw := hw.2 c_5
        refine lv_aload_n hx hb d_C_needClosedDoors_7 rfl (lv_at hl 1 rfl) ?_
        refine va_get (D := D) (ci := 0) (v := .ref (a 6)) (C := R_C) (T := F_C) (N := 13) hx hb hts (iK iW_C) hown hK hP 0 rfl rfl 6 (by decide) (hts _ (kM kw_16524bf0)) (fun _ h9 => h9) rfl d_C_needClosedDoors_8 ?_
        refine lv_iload_n hx hb d_C_needClosedDoors_11 rfl (lv_at hl 0 rfl) ?_
        obtain ⟨h_6, hw⟩ := hw
        refine va_zald hx hb hK hP 6 1 rfl rfl h_6 d_C_needClosedDoors_12 ?_
        refine lv_if_eq (tgt := 26) hx hb d_C_needClosedDoors_13 (by decide) (fun c_7 => ?_) (fun c_7 => ?_)
        · have hw := hw.1 c_7
          refine lv_iinc (v := (x1_4 + 1)) (lv' := [(1, .int (x1_4 + 1)), (0, .ref (a 0))]) hx hb d_C_needClosedDoors_26 hl (k := 0) rfl rfl (by decide) rfl (fun ls hl => ?_)
          refine lv_goto (tgt := 2) hx hb d_C_needClosedDoors_29 (by decide) ?_
          exact ih_2 (x1_4 + 1) _ hw (lv_sub hl [0, 1] rfl)
        · have hw := hw.2 c_7
          exact vx_throwS (own := R_C) (cls := "java/lang/IllegalStateException") (names := exN) hx hb hl9 hown (by decide +kernel) (by decide +kernel) (hts _ (kM kw_fc879798)) (hts _ (kM kw_f529d838)) (hZ.s 5 rfl) (ta_C_IllegalStateException (fun w h => hts w (kM h)) hZ) tg_C_IllegalStateException hZ.u hZ.n hS (hl.1.trans hml.symm) d_C_needClosedDoors_16 d_C_needClosedDoors_19 d_C_needClosedDoors_20 d_C_needClosedDoors_22 d_C_needClosedDoors_25 (fun x hx => (hEx x hx).elim) (Nat.le_of_ble_eq_true rfl) (Nat.le_of_ble_eq_true rfl) (Nat.le_of_ble_eq_true rfl) (Nat.le_of_ble_eq_true rfl) hlocks (fun t ha hsz hk => ⟨"java/lang/IllegalStateException", hw, ⟨rfl, hP.kept (fun k q hq => hk q.1 (hP k q hq).lt), va_K.moved ha hK, hD⟩, Nat.le_trans hS.1 hsz, fun q h1 h2 => (hk q (Nat.lt_of_lt_of_le h1 hS.1)).trans (hS.2.1 q h1 h2)⟩) hS.2.2 (Nat.le_of_ble_eq_true rfl) (Nat.le_of_ble_eq_true rfl)
  exact key_2 n_2 (0 : Int32) _ hw (lv_sub hl [0, 1] rfl)
def p_C_distance (x0 : Int32) (x1 : Int32) (x2 : Int32) (post : Int32 → Prop) : Prop := post (if (x2 - (if 0 ≤ (x0 - x1) then (x0 - x1) else 0 - (x0 - x1))) < (if 0 ≤ (x0 - x1) then (x0 - x1) else 0 - (x0 - x1)) then (x2 - (if 0 ≤ (x0 - x1) then (x0 - x1) else 0 - (x0 - x1))) else (if 0 ≤ (x0 - x1) then (x0 - x1) else 0 - (x0 - x1)))
abbrev rm_C_distance : Room := { frames := 1, cells := 0, slots := 0, locals := 40 }
set_option maxHeartbeats 4000000 in
set_option maxRecDepth 100000 in
theorem c_C_distance {l : Launch} {D : va_G} {sa : Nat → Nat} {cI cZ : ClassId} {sz : Nat} {x0 : Int32} {x1 : Int32} {x2 : Int32} {post : Int32 → Prop} (hw : p_C_distance x0 x1 x2 post) : Met l y_C_distance w_C_distance rm_C_distance (va_Pc [.int x0, .int x1, .int x2] (kP D sa [(cI, .int), (cZ, .boolean)] ([]) sz)) (vp_Si post) 0 0 (fun _ => False) := by
  refine Met.ofW (cc := b_C_distance) (maxL := 4) (ret := (some .int)) (by decide) rfl ?_
  intro p e s m args below meth c s₁ B hml hv
  obtain ⟨rfl, hsz, hP, hK, hD0, hZ⟩ := hv
  have hx := B.exec
  have hb := B.bytes
  have hr := B.returns
  have hts := atoms_spec (ws := w_C_distance) B.pre
  have hown : s.vm.findClass R_C = some m.cls := findClass_of_methodNamed B.named
  have hlocks := B.notSynchronized
  subst hsz
  have hD := hD0.self (sz := s.heap.size)
  generalize hAe : (va_A ([]) s.heap.size) = A at hD hZ
  have hA : ∀ q : Nat, s.heap.size ≤ q → A q := fun q h => by rw [← hAe]; exact Or.inr h
  have hS : va_S A s.heap s.heap [] := va_S.rf
  have hl := lv_entry ([.int x0, .int x1, .int x2]) (n := 4) (Nat.le_of_ble_eq_true rfl)
  rw [lg_entry_eq]
  generalize (lg_sl ([.int x0, .int x1, .int x2]) ++ List.replicate (4 - (lg_sl ([.int x0, .int x1, .int x2])).length) Slot.unset).toArray = ls at hl ⊢
  have hl : lv_has ls 4 [(0, .int x0), (1, .int x1), (2, .int x2)] := hl
  refine lv_iload_n hx hb d_C_distance_0 rfl (lv_at hl 0 rfl) ?_
  refine lv_iload_n hx hb d_C_distance_1 rfl (lv_at hl 1 rfl) ?_
  refine lv_isub hx hb d_C_distance_2 ?_
  refine va_mabs hx hb (hml.trans hl.1.symm) hown (hts _ (kM kw_6f87b927)) (hts _ (kM kw_788fc9f3)) (hts _ (kM kw_0001fcaa)) (hts _ (kM kw_970e918a)) (Nat.le_of_ble_eq_true rfl) (Nat.le_of_ble_eq_true rfl) (Nat.le_of_ble_eq_true rfl) (Nat.le_of_ble_eq_true rfl) d_C_distance_3 ?_
  refine lv_istore_n (lv' := [(3, .int (if 0 ≤ (x0 - x1) then (x0 - x1) else 0 - (x0 - x1))), (0, .int x0), (1, .int x1), (2, .int x2)]) hx hb d_C_distance_6 rfl hl (by decide) rfl (fun ls hl => ?_)
  refine lv_iload_n hx hb d_C_distance_7 rfl (lv_at hl 0 rfl) ?_
  refine lv_iload_n hx hb d_C_distance_8 rfl (lv_at hl 3 rfl) ?_
  refine lv_iload_n hx hb d_C_distance_9 rfl (lv_at hl 0 rfl) ?_
  refine lv_isub hx hb d_C_distance_10 ?_
  refine va_mmin hx hb (hml.trans hl.1.symm) hown (hts _ (kM kw_7bbf47ee)) (hts _ (kM kw_1a05fe57)) (hts _ (kM kw_0001fcaa)) (hts _ (kM kw_5e99ca5e)) (Nat.le_of_ble_eq_true rfl) (Nat.le_of_ble_eq_true rfl) (Nat.le_of_ble_eq_true rfl) (Nat.le_of_ble_eq_true rfl) d_C_distance_11 ?_
  exact W.iret (v := (if (x2 - (if 0 ≤ (x0 - x1) then (x0 - x1) else 0 - (x0 - x1))) < (if 0 ≤ (x0 - x1) then (x0 - x1) else 0 - (x0 - x1)) then (x2 - (if 0 ≤ (x0 - x1) then (x0 - x1) else 0 - (x0 - x1))) else (if 0 ≤ (x0 - x1) then (x0 - x1) else 0 - (x0 - x1)))) hx hb hr (fun t ht _ => ⟨(if (x2 - (if 0 ≤ (x0 - x1) then (x0 - x1) else 0 - (x0 - x1))) < (if 0 ≤ (x0 - x1) then (x0 - x1) else 0 - (x0 - x1)) then (x2 - (if 0 ≤ (x0 - x1) then (x0 - x1) else 0 - (x0 - x1))) else (if 0 ≤ (x0 - x1) then (x0 - x1) else 0 - (x0 - x1))), rfl, hw, ht⟩) (by simp) d_C_distance_14
def p_C_turn (x1 : Int32) (places : Int32) (front : Int32) (turns : Int32) (isOpen : Nat → Int32) (post : Int32 → Int32 → Int32 → Prop) (pex : String → Int32 → Int32 → Prop) : Prop := (p_C_needPlaces places (((x1 < 0 → pex "java/lang/IllegalArgumentException" front turns) ∧ (¬ x1 < 0 → ((x1 < places → (p_C_needClosedDoors isOpen ((p_C_distance front x1 places (fun r_3 => post r_3 x1 (turns + r_3)))) (fun E_4 => pex E_4 front turns))) ∧ (¬ x1 < places → pex "java/lang/IllegalArgumentException" front turns))))) (fun E_5 => pex E_5 front turns))
abbrev rm_C_turn : Room := { frames := 7, cells := 3, slots := 18, locals := 121 }
set_option maxHeartbeats 4000000 in
set_option maxRecDepth 100000 in
theorem c_C_turn {l : Launch} (hl9 : l.stackTraces = false) {D : va_G} {sa : Nat → Nat} {cI cZ : ClassId} {sz : Nat} {a : Nat → Nat} {places : Int32} {listed : Int32} {front : Int32} {turns : Int32} {fetched : Int32} {placeOf : Nat → Int32} {shelfAt : Nat → Int32} {isBlocked : Nat → Int32} {shelfOf : Nat → Int32} {counts : Nat → Int32} {isOpen : Nat → Int32} {list : Nat → Int32} {ring : Int32} {stops : Int32} {fewest : Int32} {isExact : Int32} {shelves : Nat → Int32} {stopPlaces : Nat → Int32} {taken : Nat → Int32} {trial : Nat → Int32} {best : Nat → Int32} {x1 : Int32} {post : Int32 → Int32 → Int32 → Prop} {pex : String → Int32 → Int32 → Prop} (hw : p_C_turn x1 places front turns isOpen post pex) : vx_Met l y_C_turn w_C_turn rm_C_turn (va_Pc [.ref (a 0), .int x1] (kP D sa [(cI, .int), (cZ, .boolean)] (cW a cI cZ places listed front turns fetched placeOf shelfAt isBlocked shelfOf counts isOpen list ring stops fewest isExact shelves stopPlaces taken trial best) sz)) (va_Qi (fun r (u : Int32 × Int32) => post r u.1 u.2) (fun (u : Int32 × Int32) t => va_P D classes (cW a cI cZ places listed u.1 u.2 fetched placeOf shelfAt isBlocked shelfOf counts isOpen list ring stops fewest isExact shelves stopPlaces taken trial best) t.heap ∧ va_K D classes [(cI, .int), (cZ, .boolean)] t ∧ va_D (va_A (cW a cI cZ places listed front turns fetched placeOf shelfAt isBlocked shelfOf counts isOpen list ring stops fewest isExact shelves stopPlaces taken trial best) sz) (cW a cI cZ places listed u.1 u.2 fetched placeOf shelfAt isBlocked shelfOf counts isOpen list ring stops fewest isExact shelves stopPlaces taken trial best)) (va_A (cW a cI cZ places listed front turns fetched placeOf shelfAt isBlocked shelfOf counts isOpen list ring stops fewest isExact shelves stopPlaces taken trial best) sz)) (vx_X (fun (u : String × Int32 × Int32) => pex u.1 u.2.1 u.2.2) (fun E (u : String × Int32 × Int32) t => u.1 = E ∧ va_P D classes (cW a cI cZ places listed u.2.1 u.2.2 fetched placeOf shelfAt isBlocked shelfOf counts isOpen list ring stops fewest isExact shelves stopPlaces taken trial best) t.heap ∧ va_K D classes [(cI, .int), (cZ, .boolean)] t ∧ va_D (va_A (cW a cI cZ places listed front turns fetched placeOf shelfAt isBlocked shelfOf counts isOpen list ring stops fewest isExact shelves stopPlaces taken trial best) sz) (cW a cI cZ places listed u.2.1 u.2.2 fetched placeOf shelfAt isBlocked shelfOf counts isOpen list ring stops fewest isExact shelves stopPlaces taken trial best)) (va_A (cW a cI cZ places listed front turns fetched placeOf shelfAt isBlocked shelfOf counts isOpen list ring stops fewest isExact shelves stopPlaces taken trial best) sz)) 3 18 (va_A (cW a cI cZ places listed front turns fetched placeOf shelfAt isBlocked shelfOf counts isOpen list ring stops fewest isExact shelves stopPlaces taken trial best) sz) := by
  refine vx_ofW (cc := b_C_turn) (maxL := 3) (ret := (some .int)) (by decide) rfl ?_
  intro p e s m args below meth c s₁ B hml hEx hv
  obtain ⟨rfl, hsz, hP, hK, hD0, hZ⟩ := hv
  have hx := B.exec
  have hb := B.bytes
  have hr := B.returns
  have hts := atoms_spec (ws := w_C_turn) B.pre
  have hown : s.vm.findClass R_C = some m.cls := findClass_of_methodNamed B.named
  have hlocks := B.notSynchronized
  subst hsz
  have hD := hD0.self (sz := s.heap.size)
  generalize hAe : (va_A (cW a cI cZ places listed front turns fetched placeOf shelfAt isBlocked shelfOf counts isOpen list ring stops fewest isExact shelves stopPlaces taken trial best) s.heap.size) = A at hD hZ ⊢
  have hA : ∀ q : Nat, s.heap.size ≤ q → A q := fun q h => by rw [← hAe]; exact Or.inr h
  have hS : va_S A s.heap s.heap [] := va_S.rf
  have hl := lv_entry ([.ref (a 0), .int x1]) (n := 3) (Nat.le_of_ble_eq_true rfl)
  rw [lg_entry_eq]
  generalize (lg_sl ([.ref (a 0), .int x1]) ++ List.replicate (3 - (lg_sl ([.ref (a 0), .int x1])).length) Slot.unset).toArray = ls at hl ⊢
  have hl : lv_has ls 3 [(0, .ref (a 0)), (1, .int x1)] := hl
  refine lv_aload_n hx hb d_C_turn_0 rfl (lv_at hl 0 rfl) ?_
  have hPc := hP
  have hDc := hD
  have hFc := va_free (wc := cW a cI cZ places listed front turns fetched placeOf shelfAt isBlocked shelfOf counts isOpen list ring stops fewest isExact shelves stopPlaces taken trial best) hD hS hA [0, 1, 2, 3, 4, 5, 6, 7, 8, 9, 10, 11, 12, 13] rfl
  refine vx_callv (vx_runV (As := []) (rest := []) ⟨hx, hb, hml, hown, hts⟩ (c_C_needPlaces hl9 hw) (cwV 0 hts (gV k_C_needPlaces kw_f3a0b8b0 kw_c86b930e kw_ab37399c kw_91859716) rfl rfl rfl (by decide +kernel) ⟨(Nat.le_of_ble_eq_true rfl), (Nat.le_of_ble_eq_true rfl)⟩) ⟨kP.blind, va_recv hK hPc (ci := 0) (q0 := 0) rfl rfl, kP.of hK hPc hDc hZ hS hFc⟩ rfl rfl hl.1 rfl (lv_room (Nat.le_of_ble_eq_true rfl)) d_C_turn_1 ⟨(Nat.le_of_ble_eq_true rfl), (Nat.le_of_ble_eq_true rfl)⟩) hS (fun q _ h => hFc q h) hFc (fun q _ h => hFc q h) (fun E9 ce q9 u t H1 locs ht hvm hw hB hz1 hk1 hS hce hcv hcl => ?_) (fun u t H1 locs ht hvm hw hB hz1 hk1 hS => ?_)
  · obtain ⟨E_5, rfl⟩ : ∃ z, z = u := ⟨_, rfl⟩
    obtain ⟨hE9, hP1, hK1, hD1⟩ := hB
    try dsimp only at hw hP1 hD1 hE9
    subst hE9
    rw [ht] at hP1
    have hK1 := va_K.moved hvm.symm hK1
    obtain ⟨hP, hD⟩ := va_join (wr := []) (w1 := cW a cI cZ places listed front turns fetched placeOf shelfAt isBlocked shelfOf counts isOpen list ring stops fewest isExact shelves stopPlaces taken trial best) hP hD [0, 1, 2, 3, 4, 5, 6, 7, 8, 9, 10, 11, 12, 13] [] rfl rfl (by decide) (by decide) hk1 hFc hP1 hD1
    generalize H1 = H at hP hS hce ⊢
    have hP : va_P D classes (cW a cI cZ places listed front turns fetched placeOf shelfAt isBlocked shelfOf counts isOpen list ring stops fewest isExact shelves stopPlaces taken trial best) H := hP
    have hD : va_D A (cW a cI cZ places listed front turns fetched placeOf shelfAt isBlocked shelfOf counts isOpen list ring stops fewest isExact shelves stopPlaces taken trial best) := hD
    exact vx_out (fun x hx => (hEx x hx).elim) hlocks hce hcv hcl (fun t9 h9 ha => ⟨(E_5, front, turns), hw, ⟨rfl, by rw [h9]; exact hP, va_K.moved ha hK, hD⟩, hS.F h9⟩) hS.2.2 (Nat.le_of_ble_eq_true rfl) (Nat.le_of_ble_eq_true rfl)
  · obtain ⟨⟩ := u
    obtain ⟨hP1, hK1, hD1⟩ := hB
    try dsimp only at hw hP1 hD1
    rw [ht] at hP1
    have hK1 := va_K.moved hvm.symm hK1
    obtain ⟨hP, hD⟩ := va_join (wr := []) (w1 := cW a cI cZ places listed front turns fetched placeOf shelfAt isBlocked shelfOf counts isOpen list ring stops fewest isExact shelves stopPlaces taken trial best) hP hD [0, 1, 2, 3, 4, 5, 6, 7, 8, 9, 10, 11, 12, 13] [] rfl rfl (by decide) (by decide) hk1 hFc hP1 hD1
    generalize H1 = H at hP hS ⊢
    have hP : va_P D classes (cW a cI cZ places listed front turns fetched placeOf shelfAt isBlocked shelfOf counts isOpen list ring stops fewest isExact shelves stopPlaces taken trial best) H := hP
    have hD : va_D A (cW a cI cZ places listed front turns fetched placeOf shelfAt isBlocked shelfOf counts isOpen list ring stops fewest isExact shelves stopPlaces taken trial best) := hD
    refine lv_iload_n hx hb d_C_turn_4 rfl (lv_at hl 1 rfl) ?_
    refine lv_if_lt (tgt := 16) hx hb d_C_turn_5 (by decide) (fun c_1 => ?_) (fun c_1 => ?_)
    · have hw := hw.1 c_1
      exact vx_throwS (own := R_C) (cls := "java/lang/IllegalArgumentException") (names := exN) hx hb hl9 hown (by decide +kernel) (by decide +kernel) (hts _ (kM kw_bedd2d32)) (hts _ (kM kw_ed8d893e)) (hZ.s 6 rfl) (ta_C_IllegalArgumentException (fun w h => hts w (kM h)) hZ) tg_C_IllegalArgumentException hZ.u hZ.n hS (hl.1.trans hml.symm) d_C_turn_16 d_C_turn_19 d_C_turn_20 d_C_turn_22 d_C_turn_25 (fun x hx => (hEx x hx).elim) (Nat.le_of_ble_eq_true rfl) (Nat.le_of_ble_eq_true rfl) (Nat.le_of_ble_eq_true rfl) (Nat.le_of_ble_eq_true rfl) hlocks (fun t ha hsz hk => ⟨("java/lang/IllegalArgumentException", front, turns), hw, ⟨rfl, hP.kept (fun k q hq => hk q.1 (hP k q hq).lt), va_K.moved ha hK, hD⟩, Nat.le_trans hS.1 hsz, fun q h1 h2 => (hk q (Nat.lt_of_lt_of_le h1 hS.1)).trans (hS.2.1 q h1 h2)⟩) hS.2.2 (Nat.le_of_ble_eq_true rfl) (Nat.le_of_ble_eq_true rfl)
    · have hw := hw.2 c_1
      refine lv_iload_n hx hb d_C_turn_8 rfl (lv_at hl 1 rfl) ?_
      refine lv_aload_n hx hb d_C_turn_9 rfl (lv_at hl 0 rfl) ?_
      refine va_get (D := D) (ci := 0) (v := .int places) (C := R_C) (T := F_C) (N := 13) hx hb hts (iK iW_C) hown hK hP 0 rfl rfl 0 (by decide) (hts _ (kM kw_e5f6e787)) (fun _ h9 => h9) rfl d_C_turn_10 ?_
      refine lv_icmp_lt (tgt := 26) hx hb d_C_turn_13 (by decide) (fun c_2 => ?_) (fun c_2 => ?_)
      · have hw := hw.1 c_2
        refine lv_aload_n hx hb d_C_turn_26 rfl (lv_at hl 0 rfl) ?_
        have hPc := hP
        have hDc := hD
        have hFc := va_free (wc := cW a cI cZ places listed front turns fetched placeOf shelfAt isBlocked shelfOf counts isOpen list ring stops fewest isExact shelves stopPlaces taken trial best) hD hS hA [0, 1, 2, 3, 4, 5, 6, 7, 8, 9, 10, 11, 12, 13] rfl
        refine vx_callv (vx_runV (As := []) (rest := []) ⟨hx, hb, hml, hown, hts⟩ (c_C_needClosedDoors hl9 hw) (cwV 0 hts (gV k_C_needClosedDoors kw_728395d1 kw_cd61010c kw_e9b58933 kw_91859716) rfl rfl rfl (by decide +kernel) ⟨(Nat.le_of_ble_eq_true rfl), (Nat.le_of_ble_eq_true rfl)⟩) ⟨kP.blind, va_recv hK hPc (ci := 0) (q0 := 0) rfl rfl, kP.of hK hPc hDc hZ hS hFc⟩ rfl rfl hl.1 rfl (lv_room (Nat.le_of_ble_eq_true rfl)) d_C_turn_27 ⟨(Nat.le_of_ble_eq_true rfl), (Nat.le_of_ble_eq_true rfl)⟩) hS (fun q _ h => hFc q h) hFc (fun q _ h => hFc q h) (fun E9 ce q9 u t H1 locs ht hvm hw hB hz1 hk1 hS hce hcv hcl => ?_) (fun u t H1 locs ht hvm hw hB hz1 hk1 hS => ?_)
        · obtain ⟨E_4, rfl⟩ : ∃ z, z = u := ⟨_, rfl⟩
          obtain ⟨hE9, hP1, hK1, hD1⟩ := hB
          try dsimp only at hw hP1 hD1 hE9
          subst hE9
          rw [ht] at hP1
          have hK1 := va_K.moved hvm.symm hK1
          obtain ⟨hP, hD⟩ := va_join (wr := []) (w1 := cW a cI cZ places listed front turns fetched placeOf shelfAt isBlocked shelfOf counts isOpen list ring stops fewest isExact shelves stopPlaces taken trial best) hP hD [0, 1, 2, 3, 4, 5, 6, 7, 8, 9, 10, 11, 12, 13] [] rfl rfl (by decide) (by decide) hk1 hFc hP1 hD1
          generalize H1 = H at hP hS hce ⊢
          have hP : va_P D classes (cW a cI cZ places listed front turns fetched placeOf shelfAt isBlocked shelfOf counts isOpen list ring stops fewest isExact shelves stopPlaces taken trial best) H := hP
          have hD : va_D A (cW a cI cZ places listed front turns fetched placeOf shelfAt isBlocked shelfOf counts isOpen list ring stops fewest isExact shelves stopPlaces taken trial best) := hD
          exact vx_out (fun x hx => (hEx x hx).elim) hlocks hce hcv hcl (fun t9 h9 ha => ⟨(E_4, front, turns), hw, ⟨rfl, by rw [h9]; exact hP, va_K.moved ha hK, hD⟩, hS.F h9⟩) hS.2.2 (Nat.le_of_ble_eq_true rfl) (Nat.le_of_ble_eq_true rfl)
        · obtain ⟨⟩ := u
          obtain ⟨hP1, hK1, hD1⟩ := hB
          try dsimp only at hw hP1 hD1
          rw [ht] at hP1
          have hK1 := va_K.moved hvm.symm hK1
          obtain ⟨hP, hD⟩ := va_join (wr := []) (w1 := cW a cI cZ places listed front turns fetched placeOf shelfAt isBlocked shelfOf counts isOpen list ring stops fewest isExact shelves stopPlaces taken trial best) hP hD [0, 1, 2, 3, 4, 5, 6, 7, 8, 9, 10, 11, 12, 13] [] rfl rfl (by decide) (by decide) hk1 hFc hP1 hD1
          generalize H1 = H at hP hS ⊢
          have hP : va_P D classes (cW a cI cZ places listed front turns fetched placeOf shelfAt isBlocked shelfOf counts isOpen list ring stops fewest isExact shelves stopPlaces taken trial best) H := hP
          have hD : va_D A (cW a cI cZ places listed front turns fetched placeOf shelfAt isBlocked shelfOf counts isOpen list ring stops fewest isExact shelves stopPlaces taken trial best) := hD
          refine lv_aload_n hx hb d_C_turn_30 rfl (lv_at hl 0 rfl) ?_
          refine va_get (D := D) (ci := 0) (v := .int front) (C := R_C) (T := F_C) (N := 13) hx hb hts (iK iW_C) hown hK hP 0 rfl rfl 10 (by decide) (hts _ (kM kw_e1db8a3f)) (fun _ h9 => h9) rfl d_C_turn_31 ?_
          refine lv_iload_n hx hb d_C_turn_34 rfl (lv_at hl 1 rfl) ?_
          refine lv_aload_n hx hb d_C_turn_35 rfl (lv_at hl 0 rfl) ?_
          refine va_get (D := D) (ci := 0) (v := .int places) (C := R_C) (T := F_C) (N := 13) hx hb hts (iK iW_C) hown hK hP 0 rfl rfl 0 (by decide) (hts _ (kM kw_e5f6e787)) (fun _ h9 => h9) rfl d_C_turn_36 ?_
          have hPc := hP.sub (ws' := []) [] rfl
          have hDc := hD.sub (ws' := []) [] (by decide) rfl
          have hFc := va_free (wc := []) hD hS hA [] rfl
          refine vp_callSi (W.runS (As := [.int front, .int x1, .int places]) (rest := []) ⟨hx, hb, hml, hown, hts⟩ (c_C_distance hw) (cwS 3 hts (gS k_C_distance kw_0b661e38 kw_f26d23c4 kw_91859716) rfl rfl rfl (by decide +kernel) ⟨(Nat.le_of_ble_eq_true rfl), (Nat.le_of_ble_eq_true rfl)⟩) ⟨kP.blind, kP.of hK hPc hDc hZ hS hFc⟩ rfl rfl hl.1 rfl (lv_room (Nat.le_of_ble_eq_true rfl)) d_C_turn_39 ⟨(Nat.le_of_ble_eq_true rfl), (Nat.le_of_ble_eq_true rfl)⟩) (fun r_3 hw => ?_)
          refine lv_istore_n (lv' := [(2, .int r_3), (0, .ref (a 0)), (1, .int x1)]) hx hb d_C_turn_42 rfl hl (by decide) rfl (fun ls hl => ?_)
          refine lv_aload_n hx hb d_C_turn_43 rfl (lv_at hl 1 rfl) ?_
          refine lv_iload_n hx hb d_C_turn_44 rfl (lv_at hl 2 rfl) ?_
          refine va_put (D := D) (ci := 0) (v := .int x1) (ty := .int) (C := R_C) (T := F_C) (N := 13) hx hb hts (iK iW_C) t_C t_C_ok n_C hown hK hP hD hS 0 rfl rfl 10 (by decide) (hts _ (kM kw_e1db8a3f)) (fun _ h9 => h9) rfl (by decide +kernel) rfl rfl (Nat.le_of_ble_eq_true rfl) d_C_turn_45 (fun H locs hP hD hS => ?_)
          have hP : va_P D classes (cW a cI cZ places listed x1 turns fetched placeOf shelfAt isBlocked shelfOf counts isOpen list ring stops fewest isExact shelves stopPlaces taken trial best) H := hP
          have hD : va_D A (cW a cI cZ places listed x1 turns fetched placeOf shelfAt isBlocked shelfOf counts isOpen list ring stops fewest isExact shelves stopPlaces taken trial best) := hD
          refine lv_aload_n hx hb d_C_turn_48 rfl (lv_at hl 1 rfl) ?_
          refine lv_dup hx hb d_C_turn_49 rfl ?_
          refine va_get (D := D) (ci := 0) (v := .int turns) (C := R_C) (T := F_C) (N := 13) hx hb hts (iK iW_C) hown hK hP 0 rfl rfl 11 (by decide) (hts _ (kM kw_dae667e5)) (fun _ h9 => h9) rfl d_C_turn_50 ?_
          refine lv_iload_n hx hb d_C_turn_53 rfl (lv_at hl 0 rfl) ?_
          refine lv_iadd hx hb d_C_turn_54 ?_
          refine va_put (D := D) (ci := 0) (v := .int (turns + r_3)) (ty := .int) (C := R_C) (T := F_C) (N := 13) hx hb hts (iK iW_C) t_C t_C_ok n_C hown hK hP hD hS 0 rfl rfl 11 (by decide) (hts _ (kM kw_dae667e5)) (fun _ h9 => h9) rfl (by decide +kernel) rfl rfl (Nat.le_of_ble_eq_true rfl) d_C_turn_55 (fun H locs hP hD hS => ?_)
          have hP : va_P D classes (cW a cI cZ places listed x1 (turns + r_3) fetched placeOf shelfAt isBlocked shelfOf counts isOpen list ring stops fewest isExact shelves stopPlaces taken trial best) H := hP
          have hD : va_D A (cW a cI cZ places listed x1 (turns + r_3) fetched placeOf shelfAt isBlocked shelfOf counts isOpen list ring stops fewest isExact shelves stopPlaces taken trial best) := hD
          refine lv_iload_n hx hb d_C_turn_58 rfl (lv_at hl 0 rfl) ?_
          refine W.widen (k := 3) (n := 18) (Nat.le_of_ble_eq_true rfl) (Nat.le_of_ble_eq_true rfl) ?_
          refine vx_ret ?_
          exact W.iret (v := r_3) hx hb hr (fun t ht hW => ⟨⟨r_3, (x1, (turns + r_3)), rfl, hw, by rw [ht]; exact hP, va_K.moved hW.alike hK, hD⟩, hS.F ht⟩) hS.2.2 d_C_turn_59
      · have hw := hw.2 c_2
        exact vx_throwS (own := R_C) (cls := "java/lang/IllegalArgumentException") (names := exN) hx hb hl9 hown (by decide +kernel) (by decide +kernel) (hts _ (kM kw_bedd2d32)) (hts _ (kM kw_ed8d893e)) (hZ.s 6 rfl) (ta_C_IllegalArgumentException (fun w h => hts w (kM h)) hZ) tg_C_IllegalArgumentException hZ.u hZ.n hS (hl.1.trans hml.symm) d_C_turn_16 d_C_turn_19 d_C_turn_20 d_C_turn_22 d_C_turn_25 (fun x hx => (hEx x hx).elim) (Nat.le_of_ble_eq_true rfl) (Nat.le_of_ble_eq_true rfl) (Nat.le_of_ble_eq_true rfl) (Nat.le_of_ble_eq_true rfl) hlocks (fun t ha hsz hk => ⟨("java/lang/IllegalArgumentException", front, turns), hw, ⟨rfl, hP.kept (fun k q hq => hk q.1 (hP k q hq).lt), va_K.moved ha hK, hD⟩, Nat.le_trans hS.1 hsz, fun q h1 h2 => (hk q (Nat.lt_of_lt_of_le h1 hS.1)).trans (hS.2.1 q h1 h2)⟩) hS.2.2 (Nat.le_of_ble_eq_true rfl) (Nat.le_of_ble_eq_true rfl)
def p_C_canBeFetched (x1 : Int32) (places : Int32) (isBlocked : Nat → Int32) (shelfOf : Nat → Int32) (post : Int32 → Prop) : Prop := (vp_in x1 20 ∧ (p_C_isShelf (shelfOf (x1).toNatClampNeg) places (fun r_2 => ((r_2 = 0 → post (0 : Int32)) ∧ (¬ r_2 = 0 → (vp_in (shelfOf (x1).toNatClampNeg) 24 ∧ ((¬ (isBlocked ((shelfOf (x1).toNatClampNeg)).toNatClampNeg) = 0 → post (0 : Int32)) ∧ ((isBlocked ((shelfOf (x1).toNatClampNeg)).toNatClampNeg) = 0 → post (1 : Int32)))))))))
abbrev rm_C_canBeFetched : Room := { frames := 2, cells := 0, slots := 0, locals := 61 }
set_option maxHeartbeats 4000000 in
set_option maxRecDepth 100000 in
theorem c_C_canBeFetched {l : Launch} {D : va_G} {sa : Nat → Nat} {cI cZ : ClassId} {sz : Nat} {a : Nat → Nat} {places : Int32} {listed : Int32} {front : Int32} {turns : Int32} {fetched : Int32} {placeOf : Nat → Int32} {shelfAt : Nat → Int32} {isBlocked : Nat → Int32} {shelfOf : Nat → Int32} {counts : Nat → Int32} {isOpen : Nat → Int32} {list : Nat → Int32} {ring : Int32} {stops : Int32} {fewest : Int32} {isExact : Int32} {shelves : Nat → Int32} {stopPlaces : Nat → Int32} {taken : Nat → Int32} {trial : Nat → Int32} {best : Nat → Int32} {x1 : Int32} {post : Int32 → Prop} (hw : p_C_canBeFetched x1 places isBlocked shelfOf post) : Met l y_C_canBeFetched w_C_canBeFetched rm_C_canBeFetched (va_Pc [.ref (a 0), .int x1] (kP D sa [(cI, .int), (cZ, .boolean)] (cW a cI cZ places listed front turns fetched placeOf shelfAt isBlocked shelfOf counts isOpen list ring stops fewest isExact shelves stopPlaces taken trial best) sz)) (vp_Si post) 0 0 (fun _ => False) := by
  refine Met.ofW (cc := b_C_canBeFetched) (maxL := 3) (ret := (some .boolean)) (by decide) rfl ?_
  intro p e s m args below meth c s₁ B hml hv
  obtain ⟨rfl, hsz, hP, hK, hD0, hZ⟩ := hv
  have hx := B.exec
  have hb := B.bytes
  have hr := B.returns
  have hts := atoms_spec (ws := w_C_canBeFetched) B.pre
  have hown : s.vm.findClass R_C = some m.cls := findClass_of_methodNamed B.named
  have hlocks := B.notSynchronized
  subst hsz
  have hD := hD0.self (sz := s.heap.size)
  generalize hAe : (va_A (cW a cI cZ places listed front turns fetched placeOf shelfAt isBlocked shelfOf counts isOpen list ring stops fewest isExact shelves stopPlaces taken trial best) s.heap.size) = A at hD hZ
  have hA : ∀ q : Nat, s.heap.size ≤ q → A q := fun q h => by rw [← hAe]; exact Or.inr h
  have hS : va_S A s.heap s.heap [] := va_S.rf
  have hl := lv_entry ([.ref (a 0), .int x1]) (n := 3) (Nat.le_of_ble_eq_true rfl)
  rw [lg_entry_eq]
  generalize (lg_sl ([.ref (a 0), .int x1]) ++ List.replicate (3 - (lg_sl ([.ref (a 0), .int x1])).length) Slot.unset).toArray = ls at hl ⊢
  have hl : lv_has ls 3 [(0, .ref (a 0)), (1, .int x1)] := hl
  refine lv_aload_n hx hb d_C_canBeFetched_0 rfl (lv_at hl 0 rfl) ?_
  refine va_get (D := D) (ci := 0) (v := .ref (a 4)) (C := R_C) (T := F_C) (N := 13) hx hb hts (iK iW_C) hown hK hP 0 rfl rfl 4 (by decide) (hts _ (kM kw_03cac826)) (fun _ h9 => h9) rfl d_C_canBeFetched_1 ?_
  refine lv_iload_n hx hb d_C_canBeFetched_4 rfl (lv_at hl 1 rfl) ?_
  obtain ⟨h_1, hw⟩ := hw
  refine va_iald hx hb hK hP 4 0 rfl rfl h_1 d_C_canBeFetched_5 ?_
  refine lv_istore_n (lv' := [(2, .int (shelfOf (x1).toNatClampNeg)), (0, .ref (a 0)), (1, .int x1)]) hx hb d_C_canBeFetched_6 rfl hl (by decide) rfl (fun ls hl => ?_)
  refine lv_aload_n hx hb d_C_canBeFetched_7 rfl (lv_at hl 1 rfl) ?_
  refine lv_iload_n hx hb d_C_canBeFetched_8 rfl (lv_at hl 0 rfl) ?_
  have hPc := hP
  have hDc := hD
  have hFc := va_free (wc := cW a cI cZ places listed front turns fetched placeOf shelfAt isBlocked shelfOf counts isOpen list ring stops fewest isExact shelves stopPlaces taken trial best) hD hS hA [0, 1, 2, 3, 4, 5, 6, 7, 8, 9, 10, 11, 12, 13] rfl
  refine vp_callSi (W.runV (As := [.int (shelfOf (x1).toNatClampNeg)]) (rest := []) ⟨hx, hb, hml, hown, hts⟩ (c_C_isShelf hw) (cwV 1 hts (gV k_C_isShelf kw_d0c9425a kw_f33cf349 kw_7ce3eb4a kw_91859716) rfl rfl rfl (by decide +kernel) ⟨(Nat.le_of_ble_eq_true rfl), (Nat.le_of_ble_eq_true rfl)⟩) ⟨kP.blind, va_recv hK hPc (ci := 0) (q0 := 0) rfl rfl, kP.of hK hPc hDc hZ hS hFc⟩ rfl rfl hl.1 rfl (lv_room (Nat.le_of_ble_eq_true rfl)) d_C_canBeFetched_9 ⟨(Nat.le_of_ble_eq_true rfl), (Nat.le_of_ble_eq_true rfl)⟩) (fun r_2 hw => ?_)
  refine lv_if_eq (tgt := 28) hx hb d_C_canBeFetched_12 (by decide) (fun c_3 => ?_) (fun c_3 => ?_)
  · have hw := hw.1 c_3
    refine lv_iconst (v := (0 : Int32)) hx hb d_C_canBeFetched_28 (by decide) ?_
    exact W.zret (v := (0 : Int32)) (ty := .boolean) hx hb hr rfl (fun t ht _ => ⟨(0 : Int32), rfl, hw, ht⟩) (by simp) d_C_canBeFetched_29
  · have hw := hw.2 c_3
    refine lv_aload_n hx hb d_C_canBeFetched_15 rfl (lv_at hl 1 rfl) ?_
    refine va_get (D := D) (ci := 0) (v := .ref (a 3)) (C := R_C) (T := F_C) (N := 13) hx hb hts (iK iW_C) hown hK hP 0 rfl rfl 3 (by decide) (hts _ (kM kw_932815e5)) (fun _ h9 => h9) rfl d_C_canBeFetched_16 ?_
    refine lv_iload_n hx hb d_C_canBeFetched_19 rfl (lv_at hl 0 rfl) ?_
    obtain ⟨h_4, hw⟩ := hw
    refine va_zald hx hb hK hP 3 1 rfl rfl h_4 d_C_canBeFetched_20 ?_
    refine lv_if_ne (tgt := 28) hx hb d_C_canBeFetched_21 (by decide) (fun c_5 => ?_) (fun c_5 => ?_)
    · have hw := hw.1 c_5
      refine lv_iconst (v := (0 : Int32)) hx hb d_C_canBeFetched_28 (by decide) ?_
      exact W.zret (v := (0 : Int32)) (ty := .boolean) hx hb hr rfl (fun t ht _ => ⟨(0 : Int32), rfl, hw, ht⟩) (by simp) d_C_canBeFetched_29
    · have hw := hw.2 c_5
      refine lv_iconst (v := (1 : Int32)) hx hb d_C_canBeFetched_24 (by decide) ?_
      refine lv_goto (tgt := 29) hx hb d_C_canBeFetched_25 (by decide) ?_
      exact W.zret (v := (1 : Int32)) (ty := .boolean) hx hb hr rfl (fun t ht _ => ⟨(1 : Int32), rfl, hw, ht⟩) (by simp) d_C_canBeFetched_29
def p_C_isListed_L2_B (v1 : Int32) (listed : Int32) (list : Nat → Int32) (post : Int32 → Prop) (K_2 : Int32 → Prop) (rec_2 : Int32 → Prop) (x2_2 : Int32) : Prop := ((listed ≤ x2_2 → K_2 x2_2) ∧ (¬ listed ≤ x2_2 → (vp_in x2_2 8 ∧ ((¬ (list (x2_2).toNatClampNeg) = v1 → rec_2 (x2_2 + 1)) ∧ ((list (x2_2).toNatClampNeg) = v1 → post (1 : Int32))))))
def p_C_isListed_L2 (v1 : Int32) (listed : Int32) (list : Nat → Int32) (post : Int32 → Prop) (K_2 : Int32 → Prop) : Nat → Int32 → Prop
  | 0 => fun _ => False
  | n + 1 => p_C_isListed_L2_B v1 listed list post K_2 (p_C_isListed_L2 v1 listed list post K_2 n)
def p_C_isListed (x1 : Int32) (listed : Int32) (list : Nat → Int32) (post : Int32 → Prop) : Prop := (∃ n, p_C_isListed_L2 x1 listed list post (fun (k_8 : Int32) => post (0 : Int32)) n (0 : Int32))
abbrev rm_C_isListed : Room := { frames := 1, cells := 0, slots := 0, locals := 40 }
set_option maxHeartbeats 4000000 in
set_option maxRecDepth 100000 in
theorem c_C_isListed {l : Launch} {D : va_G} {sa : Nat → Nat} {cI cZ : ClassId} {sz : Nat} {a : Nat → Nat} {places : Int32} {listed : Int32} {front : Int32} {turns : Int32} {fetched : Int32} {placeOf : Nat → Int32} {shelfAt : Nat → Int32} {isBlocked : Nat → Int32} {shelfOf : Nat → Int32} {counts : Nat → Int32} {isOpen : Nat → Int32} {list : Nat → Int32} {ring : Int32} {stops : Int32} {fewest : Int32} {isExact : Int32} {shelves : Nat → Int32} {stopPlaces : Nat → Int32} {taken : Nat → Int32} {trial : Nat → Int32} {best : Nat → Int32} {x1 : Int32} {post : Int32 → Prop} (hw : p_C_isListed x1 listed list post) : Met l y_C_isListed w_C_isListed rm_C_isListed (va_Pc [.ref (a 0), .int x1] (kP D sa [(cI, .int), (cZ, .boolean)] (cW a cI cZ places listed front turns fetched placeOf shelfAt isBlocked shelfOf counts isOpen list ring stops fewest isExact shelves stopPlaces taken trial best) sz)) (vp_Si post) 0 0 (fun _ => False) := by
  refine Met.ofW (cc := b_C_isListed) (maxL := 3) (ret := (some .boolean)) (by decide) rfl ?_
  intro p e s m args below meth c s₁ B hml hv
  obtain ⟨rfl, hsz, hP, hK, hD0, hZ⟩ := hv
  have hx := B.exec
  have hb := B.bytes
  have hr := B.returns
  have hts := atoms_spec (ws := w_C_isListed) B.pre
  have hown : s.vm.findClass R_C = some m.cls := findClass_of_methodNamed B.named
  have hlocks := B.notSynchronized
  subst hsz
  have hD := hD0.self (sz := s.heap.size)
  generalize hAe : (va_A (cW a cI cZ places listed front turns fetched placeOf shelfAt isBlocked shelfOf counts isOpen list ring stops fewest isExact shelves stopPlaces taken trial best) s.heap.size) = A at hD hZ
  have hA : ∀ q : Nat, s.heap.size ≤ q → A q := fun q h => by rw [← hAe]; exact Or.inr h
  have hS : va_S A s.heap s.heap [] := va_S.rf
  have hl := lv_entry ([.ref (a 0), .int x1]) (n := 3) (Nat.le_of_ble_eq_true rfl)
  rw [lg_entry_eq]
  generalize (lg_sl ([.ref (a 0), .int x1]) ++ List.replicate (3 - (lg_sl ([.ref (a 0), .int x1])).length) Slot.unset).toArray = ls at hl ⊢
  have hl : lv_has ls 3 [(0, .ref (a 0)), (1, .int x1)] := hl
  refine lv_iconst (v := (0 : Int32)) hx hb d_C_isListed_0 (by decide) ?_
  refine lv_istore_n (lv' := [(2, .int (0 : Int32)), (0, .ref (a 0)), (1, .int x1)]) hx hb d_C_isListed_1 rfl hl (by decide) rfl (fun ls hl => ?_)
  obtain ⟨K_2, hK_2⟩ : ∃ z : Int32 → Prop, z = (fun (k_8 : Int32) => post (0 : Int32)) := ⟨_, rfl⟩
  have hw : ∃ n, p_C_isListed_L2 x1 listed list post K_2 n (0 : Int32) := by rw [hK_2]; exact hw
  obtain ⟨n_2, hw⟩ := hw
  have key_2 : ∀ (n : Nat) (x2_4 : Int32) (ls : Array Slot), p_C_isListed_L2 x1 listed list post K_2 n x2_4 → lv_has ls 3 [(2, .int x2_4), (0, .ref (a 0)), (1, .int x1)] → W p l e (headSpec w_C_isListed rm_C_isListed).room s m ([.ref (a 0), .int x1] : List Value).toArray below meth c s.heap [] 0 0 (MQ below (vp_Si post) ([.ref (a 0), .int x1] : List Value).toArray s 0 0 (fun _ => False)) (F0 m 2 ls []) := by
    intro n
    induction n with
    | zero => intro x2_4 ls hw hl; exact hw.elim
    | succ n ih_2 =>
      intro x2_4 ls hw hl
      have hw : p_C_isListed_L2_B x1 listed list post K_2 (p_C_isListed_L2 x1 listed list post K_2 n) x2_4 := hw
      generalize p_C_isListed_L2 x1 listed list post K_2 n = rec_2 at hw ih_2
      refine lv_iload_n hx hb d_C_isListed_2 rfl (lv_at hl 0 rfl) ?_
      refine lv_aload_n hx hb d_C_isListed_3 rfl (lv_at hl 1 rfl) ?_
      refine va_get (D := D) (ci := 0) (v := .int listed) (C := R_C) (T := F_C) (N := 13) hx hb hts (iK iW_C) hown hK hP 0 rfl rfl 9 (by decide) (hts _ (kM kw_f614f36e)) (fun _ h9 => h9) rfl d_C_isListed_4 ?_
      refine lv_icmp_ge (tgt := 28) hx hb d_C_isListed_7 (by decide) (fun c_5 => ?_) (fun c_5 => ?_)
      · have hw := hw.1 c_5
        rw [hK_2] at hw
        have hl : lv_has ls 3 [(2, .int x2_4), (0, .ref (a 0)), (1, .int x1)] := lv_sub hl [0, 1, 2] rfl
        refine lv_iconst (v := (0 : Int32)) hx hb d_C_isListed_28 (by decide) ?_
        exact W.zret (v := (0 : Int32)) (ty := .boolean) hx hb hr rfl (fun t ht _ => ⟨(0 : Int32), rfl, hw, ht⟩) (by simp) d_C_isListed_29
      · have hw := hw.2 c_5
        refine lv_aload_n hx hb d_C_isListed_10 rfl (lv_at hl 1 rfl) ?_
        refine va_get (D := D) (ci := 0) (v := .ref (a 7)) (C := R_C) (T := F_C) (N := 13) hx hb hts (iK iW_C) hown hK hP 0 rfl rfl 7 (by decide) (hts _ (kM kw_01782700)) (fun _ h9 => h9) rfl d_C_isListed_11 ?_
        refine lv_iload_n hx hb d_C_isListed_14 rfl (lv_at hl 0 rfl) ?_
        obtain ⟨h_6, hw⟩ := hw
        refine va_iald hx hb hK hP 7 0 rfl rfl h_6 d_C_isListed_15 ?_
        refine lv_iload_n hx hb d_C_isListed_16 rfl (lv_at hl 2 rfl) ?_
        refine lv_icmp_ne (tgt := 22) hx hb d_C_isListed_17 (by decide) (fun c_7 => ?_) (fun c_7 => ?_)
        · have hw := hw.1 c_7
          refine lv_iinc (v := (x2_4 + 1)) (lv' := [(2, .int (x2_4 + 1)), (0, .ref (a 0)), (1, .int x1)]) hx hb d_C_isListed_22 hl (k := 0) rfl rfl (by decide) rfl (fun ls hl => ?_)
          refine lv_goto (tgt := 2) hx hb d_C_isListed_25 (by decide) ?_
          exact ih_2 (x2_4 + 1) _ hw (lv_sub hl [0, 1, 2] rfl)
        · have hw := hw.2 c_7
          refine lv_iconst (v := (1 : Int32)) hx hb d_C_isListed_20 (by decide) ?_
          exact W.zret (v := (1 : Int32)) (ty := .boolean) hx hb hr rfl (fun t ht _ => ⟨(1 : Int32), rfl, hw, ht⟩) (by simp) d_C_isListed_21
  exact key_2 n_2 (0 : Int32) _ hw (lv_sub hl [0, 1, 2] rfl)
