def p_M_init_L141_B (K_141 : Int32 → (Nat → Int32) → Prop) (rec_141 : Int32 → (Nat → Int32) → Prop) (x2_141 : Int32) (m_placeOf_141 : Nat → Int32) : Prop := (((24 : Int32) ≤ x2_141 → K_141 x2_141 m_placeOf_141) ∧ (¬ (24 : Int32) ≤ x2_141 → (vp_in x2_141 24 ∧ rec_141 (x2_141 + 1) (upd m_placeOf_141 (x2_141).toNatClampNeg x2_141))))
def p_M_init_L141 (K_141 : Int32 → (Nat → Int32) → Prop) : Nat → Int32 → (Nat → Int32) → Prop
  | 0 => fun _ _ => False
  | n + 1 => p_M_init_L141_B K_141 (p_M_init_L141 K_141 n)
def p_M_init_L162_B (K_162 : Int32 → (Nat → Int32) → Prop) (rec_162 : Int32 → (Nat → Int32) → Prop) (x2_162 : Int32) (m_on_162 : Nat → Int32) : Prop := (((20 : Int32) ≤ x2_162 → K_162 x2_162 m_on_162) ∧ (¬ (20 : Int32) ≤ x2_162 → (vp_in x2_162 20 ∧ rec_162 (x2_162 + 1) (upd m_on_162 (x2_162).toNatClampNeg (-1 : Int32)))))
def p_M_init_L162 (K_162 : Int32 → (Nat → Int32) → Prop) : Nat → Int32 → (Nat → Int32) → Prop
  | 0 => fun _ _ => False
  | n + 1 => p_M_init_L162_B K_162 (p_M_init_L162 K_162 n)
def p_M_init (x1 : Int32) (post : Int32 → Int32 → Int32 → Int32 → Int32 → Int32 → Int32 → Int32 → Int32 → (Nat → Int32) → (Nat → Int32) → (Nat → Int32) → (Nat → Int32) → (Nat → Int32) → (Nat → Int32) → (Nat → Int32) → (Nat → Int32) → (Nat → Int32) → Prop) : Prop := ((0 ≤ x1 → ((x1 ≤ (24 : Int32) → (∃ n, p_M_init_L141 (fun (k_36 : Int32) (k_37 : Nat → Int32) => (∃ n, p_M_init_L162 (fun (k_44 : Int32) (k_45 : Nat → Int32) => post (0 : Int32) x1 (0 : Int32) (0 : Int32) (0 : Int32) (0 : Int32) (0 : Int32) (0 : Int32) (0 : Int32) k_37 (fun _ => 0) k_45 (fun _ => 0) (fun _ => 0) (fun _ => 0) (fun _ => 0) (fun _ => 0) (fun _ => 0)) n (0 : Int32) (fun _ => 0))) n (0 : Int32) (fun _ => 0))) ∧ (¬ x1 ≤ (24 : Int32) → (∃ n, p_M_init_L141 (fun (k_50 : Int32) (k_51 : Nat → Int32) => (∃ n, p_M_init_L162 (fun (k_56 : Int32) (k_57 : Nat → Int32) => post (0 : Int32) (24 : Int32) (0 : Int32) (0 : Int32) (0 : Int32) (0 : Int32) (0 : Int32) (0 : Int32) (0 : Int32) k_51 (fun _ => 0) k_57 (fun _ => 0) (fun _ => 0) (fun _ => 0) (fun _ => 0) (fun _ => 0) (fun _ => 0)) n (0 : Int32) (fun _ => 0))) n (0 : Int32) (fun _ => 0))))) ∧ (¬ 0 ≤ x1 → (∃ n, p_M_init_L141 (fun (k_62 : Int32) (k_63 : Nat → Int32) => (∃ n, p_M_init_L162 (fun (k_68 : Int32) (k_69 : Nat → Int32) => post (0 : Int32) (0 : Int32) (0 : Int32) (0 : Int32) (0 : Int32) (0 : Int32) (0 : Int32) (0 : Int32) (0 : Int32) k_63 (fun _ => 0) k_69 (fun _ => 0) (fun _ => 0) (fun _ => 0) (fun _ => 0) (fun _ => 0) (fun _ => 0)) n (0 : Int32) (fun _ => 0))) n (0 : Int32) (fun _ => 0))))
abbrev rm_M_init : Room := { frames := 1, cells := 9, slots := 122, locals := 40 }
set_option maxHeartbeats 4000000 in
set_option maxRecDepth 100000 in
theorem c_M_init {l : Launch} {D : va_G} {sa : Nat → Nat} {cI cZ : ClassId} {sz h0 : Nat} {x1 : Int32} {post : Int32 → Int32 → Int32 → Int32 → Int32 → Int32 → Int32 → Int32 → Int32 → (Nat → Int32) → (Nat → Int32) → (Nat → Int32) → (Nat → Int32) → (Nat → Int32) → (Nat → Int32) → (Nat → Int32) → (Nat → Int32) → (Nat → Int32) → Prop} (hw : p_M_init x1 post) : Met l y_M_init w_M_init rm_M_init (va_Pc [.ref h0, .int x1] (kP D sa [(cI, .int), (cZ, .boolean)] ([(h0, .inr (2, [.int 0, .int 0, .int 0, .null, .null, .null, .null, .null, .int 0, .int 0, .int 0, .null, .int 0, .null, .int 0, .int 0, .null, .null]))]) sz)) (va_Qv (fun (u : List Nat × Int32 × Int32 × Int32 × Int32 × Int32 × Int32 × Int32 × Int32 × Int32 × (Nat → Int32) × (Nat → Int32) × (Nat → Int32) × (Nat → Int32) × (Nat → Int32) × (Nat → Int32) × (Nat → Int32) × (Nat → Int32) × (Nat → Int32)) => post u.2.1 u.2.2.1 u.2.2.2.1 u.2.2.2.2.1 u.2.2.2.2.2.1 u.2.2.2.2.2.2.1 u.2.2.2.2.2.2.2.1 u.2.2.2.2.2.2.2.2.1 u.2.2.2.2.2.2.2.2.2.1 u.2.2.2.2.2.2.2.2.2.2.1 u.2.2.2.2.2.2.2.2.2.2.2.1 u.2.2.2.2.2.2.2.2.2.2.2.2.1 u.2.2.2.2.2.2.2.2.2.2.2.2.2.1 u.2.2.2.2.2.2.2.2.2.2.2.2.2.2.1 u.2.2.2.2.2.2.2.2.2.2.2.2.2.2.2.1 u.2.2.2.2.2.2.2.2.2.2.2.2.2.2.2.2.1 u.2.2.2.2.2.2.2.2.2.2.2.2.2.2.2.2.2.1 u.2.2.2.2.2.2.2.2.2.2.2.2.2.2.2.2.2.2) (fun (u : List Nat × Int32 × Int32 × Int32 × Int32 × Int32 × Int32 × Int32 × Int32 × Int32 × (Nat → Int32) × (Nat → Int32) × (Nat → Int32) × (Nat → Int32) × (Nat → Int32) × (Nat → Int32) × (Nat → Int32) × (Nat → Int32) × (Nat → Int32)) t => va_P D classes (mW (adM h0 u.1) cI cZ u.2.1 u.2.2.1 u.2.2.2.1 u.2.2.2.2.1 u.2.2.2.2.2.1 u.2.2.2.2.2.2.1 u.2.2.2.2.2.2.2.1 u.2.2.2.2.2.2.2.2.1 u.2.2.2.2.2.2.2.2.2.1 u.2.2.2.2.2.2.2.2.2.2.1 u.2.2.2.2.2.2.2.2.2.2.2.1 u.2.2.2.2.2.2.2.2.2.2.2.2.1 u.2.2.2.2.2.2.2.2.2.2.2.2.2.1 u.2.2.2.2.2.2.2.2.2.2.2.2.2.2.1 u.2.2.2.2.2.2.2.2.2.2.2.2.2.2.2.1 u.2.2.2.2.2.2.2.2.2.2.2.2.2.2.2.2.1 u.2.2.2.2.2.2.2.2.2.2.2.2.2.2.2.2.2.1 u.2.2.2.2.2.2.2.2.2.2.2.2.2.2.2.2.2.2) t.heap ∧ va_K D classes [(cI, .int), (cZ, .boolean)] t ∧ va_D (va_A ([(h0, .inr (2, [.int 0, .int 0, .int 0, .null, .null, .null, .null, .null, .int 0, .int 0, .int 0, .null, .int 0, .null, .int 0, .int 0, .null, .null]))]) sz) (mW (adM h0 u.1) cI cZ u.2.1 u.2.2.1 u.2.2.2.1 u.2.2.2.2.1 u.2.2.2.2.2.1 u.2.2.2.2.2.2.1 u.2.2.2.2.2.2.2.1 u.2.2.2.2.2.2.2.2.1 u.2.2.2.2.2.2.2.2.2.1 u.2.2.2.2.2.2.2.2.2.2.1 u.2.2.2.2.2.2.2.2.2.2.2.1 u.2.2.2.2.2.2.2.2.2.2.2.2.1 u.2.2.2.2.2.2.2.2.2.2.2.2.2.1 u.2.2.2.2.2.2.2.2.2.2.2.2.2.2.1 u.2.2.2.2.2.2.2.2.2.2.2.2.2.2.2.1 u.2.2.2.2.2.2.2.2.2.2.2.2.2.2.2.2.1 u.2.2.2.2.2.2.2.2.2.2.2.2.2.2.2.2.2.1 u.2.2.2.2.2.2.2.2.2.2.2.2.2.2.2.2.2.2)) (va_A ([(h0, .inr (2, [.int 0, .int 0, .int 0, .null, .null, .null, .null, .null, .int 0, .int 0, .int 0, .null, .int 0, .null, .int 0, .int 0, .null, .null]))]) sz)) 9 122 (va_A ([(h0, .inr (2, [.int 0, .int 0, .int 0, .null, .null, .null, .null, .null, .int 0, .int 0, .int 0, .null, .int 0, .null, .int 0, .int 0, .null, .null]))]) sz) := by
  refine Met.ofW (cc := b_M_init) (maxL := 3) (ret := none) (by decide) rfl ?_
  intro p e s m args below meth c s₁ B hml hv
  obtain ⟨rfl, hsz, hP, hK, hD0, hZ⟩ := hv
  have hx := B.exec
  have hb := B.bytes
  have hr := B.returns
  have hts := atoms_spec (ws := w_M_init) B.pre
  have hown : s.vm.findClass R_M = some m.cls := findClass_of_methodNamed B.named
  have hlocks := B.notSynchronized
  have hin : meth.name = "<init>" := (name_of_methodNamed B.named B.method).1
  subst hsz
  have hD := hD0.self (sz := s.heap.size)
  generalize hAe : (va_A ([(h0, .inr (2, [.int 0, .int 0, .int 0, .null, .null, .null, .null, .null, .int 0, .int 0, .int 0, .null, .int 0, .null, .int 0, .int 0, .null, .null]))]) s.heap.size) = A at hD hZ ⊢
  have hA : ∀ q : Nat, s.heap.size ≤ q → A q := fun q h => by rw [← hAe]; exact Or.inr h
  have hS : va_S A s.heap s.heap [] := va_S.rf
  have hl := lv_entry ([.ref h0, .int x1]) (n := 3) (Nat.le_of_ble_eq_true rfl)
  rw [lg_entry_eq]
  generalize (lg_sl ([.ref h0, .int x1]) ++ List.replicate (3 - (lg_sl ([.ref h0, .int x1])).length) Slot.unset).toArray = ls at hl ⊢
  have hl : lv_has ls 3 [(0, .ref h0), (1, .int x1)] := hl
  refine lv_aload_n hx hb d_M_init_0 rfl (lv_at hl 0 rfl) ?_
  refine W.objInit hx hb hown (hts _ (kM kw_5e76c081)) (hts _ (kM kw_99ff6a43)) (hts _ (kM kw_bd0ebf18)) rfl (by rw [hml]; exact hl.1) rfl d_M_init_1 (Nat.le_of_ble_eq_true rfl) (Nat.le_of_ble_eq_true rfl) ?_
  refine W.eq (g2 := F0 m 4 ls []) rfl ?_
  refine lv_aload_n hx hb d_M_init_4 rfl (lv_at hl 0 rfl) ?_
  refine lv_iconst (v := (0 : Int32)) hx hb d_M_init_5 (by decide) ?_
  refine va_put (D := D) (ci := 2) (v := .int (0 : Int32)) (ty := .int) (C := R_M) (T := F_M) (N := 18) hx hb hts (iK iW_M) t_M t_M_ok n_M hown hK hP hD hS 0 rfl rfl 0 (by decide) (hts _ (kM kw_8fca7397)) (fun _ h9 => h9) rfl (by decide +kernel) rfl rfl (Nat.le_of_ble_eq_true rfl) d_M_init_6 (fun H locs hP hD hS => ?_)
  have hP : va_P D classes ([(h0, .inr (2, [.int (0 : Int32), .int 0, .int 0, .null, .null, .null, .null, .null, .int 0, .int 0, .int 0, .null, .int 0, .null, .int 0, .int 0, .null, .null]))]) H := hP
  have hD : va_D A ([(h0, .inr (2, [.int (0 : Int32), .int 0, .int 0, .null, .null, .null, .null, .null, .int 0, .int 0, .int 0, .null, .int 0, .null, .int 0, .int 0, .null, .null]))]) := hD
  refine lv_aload_n hx hb d_M_init_9 rfl (lv_at hl 0 rfl) ?_
  refine lv_iconst (v := (0 : Int32)) hx hb d_M_init_10 (by decide) ?_
  refine va_put (D := D) (ci := 2) (v := .int (0 : Int32)) (ty := .int) (C := R_M) (T := F_M) (N := 18) hx hb hts (iK iW_M) t_M t_M_ok n_M hown hK hP hD hS 0 rfl rfl 2 (by decide) (hts _ (kM kw_6549c401)) (fun _ h9 => h9) rfl (by decide +kernel) rfl rfl (Nat.le_of_ble_eq_true rfl) d_M_init_11 (fun H locs hP hD hS => ?_)
  have hP : va_P D classes ([(h0, .inr (2, [.int (0 : Int32), .int 0, .int (0 : Int32), .null, .null, .null, .null, .null, .int 0, .int 0, .int 0, .null, .int 0, .null, .int 0, .int 0, .null, .null]))]) H := hP
  have hD : va_D A ([(h0, .inr (2, [.int (0 : Int32), .int 0, .int (0 : Int32), .null, .null, .null, .null, .null, .int 0, .int 0, .int 0, .null, .int 0, .null, .int 0, .int 0, .null, .null]))]) := hD
  refine lv_aload_n hx hb d_M_init_14 rfl (lv_at hl 0 rfl) ?_
  refine lv_bipush (v := (24 : Int32)) hx hb d_M_init_15 (by decide) ?_
  refine va_newa (atype := .int) (a0 := (24, .inl (fun _ => 0))) (ty := .int) hx hb (hts _ (kM kw_8e969fb2)) rfl hK hP hD hS hA (fun _ => rfl) (by decide) (by decide) (by decide) (Nat.le_of_ble_eq_true rfl) (Nat.le_of_ble_eq_true rfl) d_M_init_17 (fun q_1 cA_3 H hK hP hD hS => ?_)
  obtain rfl : cI = cA_3 := Option.some.inj ((va_nm_int (hK.2 0 _ rfl).2).symm.trans (va_nm_int (hK.2 2 _ rfl).2))
  have hK : va_K D classes [(cI, .int), (cZ, .boolean)] s := hK.sub [0, 1] rfl
  have hP : va_P D classes ([(h0, .inr (2, [.int (0 : Int32), .int 0, .int (0 : Int32), .null, .null, .null, .null, .null, .int 0, .int 0, .int 0, .null, .int 0, .null, .int 0, .int 0, .null, .null])), (q_1, .inl (cI, 24, .inl (fun _ => 0)))]) H := hP
  have hD : va_D A ([(h0, .inr (2, [.int (0 : Int32), .int 0, .int (0 : Int32), .null, .null, .null, .null, .null, .int 0, .int 0, .int 0, .null, .int 0, .null, .int 0, .int 0, .null, .null])), (q_1, .inl (cI, 24, .inl (fun _ => 0)))]) := hD
  refine va_putF (D := D) (ci := 2) (v := .ref q_1) (ty := (t_M 3)) (C := R_M) (T := F_M) (N := 18) hx hb hts (iK iW_M) t_M t_M_ok n_M hown hK hP hD hS 0 rfl rfl 3 (by decide) (hts _ (kM kw_1dda6185)) (fun _ h9 => h9) rfl hin rfl (by decide +kernel) rfl rfl (Nat.le_of_ble_eq_true rfl) d_M_init_19 (fun H locs hP hD hS => ?_)
  have hP : va_P D classes ([(h0, .inr (2, [.int (0 : Int32), .int 0, .int (0 : Int32), .ref q_1, .null, .null, .null, .null, .int 0, .int 0, .int 0, .null, .int 0, .null, .int 0, .int 0, .null, .null])), (q_1, .inl (cI, 24, .inl (fun _ => 0)))]) H := hP
  have hD : va_D A ([(h0, .inr (2, [.int (0 : Int32), .int 0, .int (0 : Int32), .ref q_1, .null, .null, .null, .null, .int 0, .int 0, .int 0, .null, .int 0, .null, .int 0, .int 0, .null, .null])), (q_1, .inl (cI, 24, .inl (fun _ => 0)))]) := hD
  refine lv_aload_n hx hb d_M_init_22 rfl (lv_at hl 0 rfl) ?_
  refine lv_bipush (v := (24 : Int32)) hx hb d_M_init_23 (by decide) ?_
  refine va_newa (atype := .boolean) (a0 := (24, .inl (fun _ => 0))) (ty := .boolean) hx hb (hts _ (kM kw_14bcb724)) rfl hK hP hD hS hA (fun _ => rfl) (by decide) (by decide) (by decide) (Nat.le_of_ble_eq_true rfl) (Nat.le_of_ble_eq_true rfl) d_M_init_25 (fun q_4 cA_6 H hK hP hD hS => ?_)
  obtain rfl : cZ = cA_6 := Option.some.inj ((va_nm_boolean (hK.2 1 _ rfl).2).symm.trans (va_nm_boolean (hK.2 2 _ rfl).2))
  have hK : va_K D classes [(cI, .int), (cZ, .boolean)] s := hK.sub [0, 1] rfl
  have hP : va_P D classes ([(h0, .inr (2, [.int (0 : Int32), .int 0, .int (0 : Int32), .ref q_1, .null, .null, .null, .null, .int 0, .int 0, .int 0, .null, .int 0, .null, .int 0, .int 0, .null, .null])), (q_1, .inl (cI, 24, .inl (fun _ => 0))), (q_4, .inl (cZ, 24, .inl (fun _ => 0)))]) H := hP
  have hD : va_D A ([(h0, .inr (2, [.int (0 : Int32), .int 0, .int (0 : Int32), .ref q_1, .null, .null, .null, .null, .int 0, .int 0, .int 0, .null, .int 0, .null, .int 0, .int 0, .null, .null])), (q_1, .inl (cI, 24, .inl (fun _ => 0))), (q_4, .inl (cZ, 24, .inl (fun _ => 0)))]) := hD
  refine va_putF (D := D) (ci := 2) (v := .ref q_4) (ty := (t_M 4)) (C := R_M) (T := F_M) (N := 18) hx hb hts (iK iW_M) t_M t_M_ok n_M hown hK hP hD hS 0 rfl rfl 4 (by decide) (hts _ (kM kw_f6907c18)) (fun _ h9 => h9) rfl hin rfl (by decide +kernel) rfl rfl (Nat.le_of_ble_eq_true rfl) d_M_init_27 (fun H locs hP hD hS => ?_)
  have hP : va_P D classes ([(h0, .inr (2, [.int (0 : Int32), .int 0, .int (0 : Int32), .ref q_1, .ref q_4, .null, .null, .null, .int 0, .int 0, .int 0, .null, .int 0, .null, .int 0, .int 0, .null, .null])), (q_1, .inl (cI, 24, .inl (fun _ => 0))), (q_4, .inl (cZ, 24, .inl (fun _ => 0)))]) H := hP
  have hD : va_D A ([(h0, .inr (2, [.int (0 : Int32), .int 0, .int (0 : Int32), .ref q_1, .ref q_4, .null, .null, .null, .int 0, .int 0, .int 0, .null, .int 0, .null, .int 0, .int 0, .null, .null])), (q_1, .inl (cI, 24, .inl (fun _ => 0))), (q_4, .inl (cZ, 24, .inl (fun _ => 0)))]) := hD
  refine lv_aload_n hx hb d_M_init_30 rfl (lv_at hl 0 rfl) ?_
  refine lv_bipush (v := (20 : Int32)) hx hb d_M_init_31 (by decide) ?_
  refine va_newa (atype := .int) (a0 := (20, .inl (fun _ => 0))) (ty := .int) hx hb (hts _ (kM kw_8e969fb2)) rfl hK hP hD hS hA (fun _ => rfl) (by decide) (by decide) (by decide) (Nat.le_of_ble_eq_true rfl) (Nat.le_of_ble_eq_true rfl) d_M_init_33 (fun q_7 cA_9 H hK hP hD hS => ?_)
  obtain rfl : cI = cA_9 := Option.some.inj ((va_nm_int (hK.2 0 _ rfl).2).symm.trans (va_nm_int (hK.2 2 _ rfl).2))
  have hK : va_K D classes [(cI, .int), (cZ, .boolean)] s := hK.sub [0, 1] rfl
  have hP : va_P D classes ([(h0, .inr (2, [.int (0 : Int32), .int 0, .int (0 : Int32), .ref q_1, .ref q_4, .null, .null, .null, .int 0, .int 0, .int 0, .null, .int 0, .null, .int 0, .int 0, .null, .null])), (q_1, .inl (cI, 24, .inl (fun _ => 0))), (q_4, .inl (cZ, 24, .inl (fun _ => 0))), (q_7, .inl (cI, 20, .inl (fun _ => 0)))]) H := hP
  have hD : va_D A ([(h0, .inr (2, [.int (0 : Int32), .int 0, .int (0 : Int32), .ref q_1, .ref q_4, .null, .null, .null, .int 0, .int 0, .int 0, .null, .int 0, .null, .int 0, .int 0, .null, .null])), (q_1, .inl (cI, 24, .inl (fun _ => 0))), (q_4, .inl (cZ, 24, .inl (fun _ => 0))), (q_7, .inl (cI, 20, .inl (fun _ => 0)))]) := hD
  refine va_putF (D := D) (ci := 2) (v := .ref q_7) (ty := (t_M 5)) (C := R_M) (T := F_M) (N := 18) hx hb hts (iK iW_M) t_M t_M_ok n_M hown hK hP hD hS 0 rfl rfl 5 (by decide) (hts _ (kM kw_7ca6b28c)) (fun _ h9 => h9) rfl hin rfl (by decide +kernel) rfl rfl (Nat.le_of_ble_eq_true rfl) d_M_init_35 (fun H locs hP hD hS => ?_)
  have hP : va_P D classes ([(h0, .inr (2, [.int (0 : Int32), .int 0, .int (0 : Int32), .ref q_1, .ref q_4, .ref q_7, .null, .null, .int 0, .int 0, .int 0, .null, .int 0, .null, .int 0, .int 0, .null, .null])), (q_1, .inl (cI, 24, .inl (fun _ => 0))), (q_4, .inl (cZ, 24, .inl (fun _ => 0))), (q_7, .inl (cI, 20, .inl (fun _ => 0)))]) H := hP
  have hD : va_D A ([(h0, .inr (2, [.int (0 : Int32), .int 0, .int (0 : Int32), .ref q_1, .ref q_4, .ref q_7, .null, .null, .int 0, .int 0, .int 0, .null, .int 0, .null, .int 0, .int 0, .null, .null])), (q_1, .inl (cI, 24, .inl (fun _ => 0))), (q_4, .inl (cZ, 24, .inl (fun _ => 0))), (q_7, .inl (cI, 20, .inl (fun _ => 0)))]) := hD
  refine lv_aload_n hx hb d_M_init_38 rfl (lv_at hl 0 rfl) ?_
  refine lv_bipush (v := (20 : Int32)) hx hb d_M_init_39 (by decide) ?_
  refine va_newa (atype := .int) (a0 := (20, .inl (fun _ => 0))) (ty := .int) hx hb (hts _ (kM kw_8e969fb2)) rfl hK hP hD hS hA (fun _ => rfl) (by decide) (by decide) (by decide) (Nat.le_of_ble_eq_true rfl) (Nat.le_of_ble_eq_true rfl) d_M_init_41 (fun q_10 cA_12 H hK hP hD hS => ?_)
  obtain rfl : cI = cA_12 := Option.some.inj ((va_nm_int (hK.2 0 _ rfl).2).symm.trans (va_nm_int (hK.2 2 _ rfl).2))
  have hK : va_K D classes [(cI, .int), (cZ, .boolean)] s := hK.sub [0, 1] rfl
  have hP : va_P D classes ([(h0, .inr (2, [.int (0 : Int32), .int 0, .int (0 : Int32), .ref q_1, .ref q_4, .ref q_7, .null, .null, .int 0, .int 0, .int 0, .null, .int 0, .null, .int 0, .int 0, .null, .null])), (q_1, .inl (cI, 24, .inl (fun _ => 0))), (q_4, .inl (cZ, 24, .inl (fun _ => 0))), (q_7, .inl (cI, 20, .inl (fun _ => 0))), (q_10, .inl (cI, 20, .inl (fun _ => 0)))]) H := hP
  have hD : va_D A ([(h0, .inr (2, [.int (0 : Int32), .int 0, .int (0 : Int32), .ref q_1, .ref q_4, .ref q_7, .null, .null, .int 0, .int 0, .int 0, .null, .int 0, .null, .int 0, .int 0, .null, .null])), (q_1, .inl (cI, 24, .inl (fun _ => 0))), (q_4, .inl (cZ, 24, .inl (fun _ => 0))), (q_7, .inl (cI, 20, .inl (fun _ => 0))), (q_10, .inl (cI, 20, .inl (fun _ => 0)))]) := hD
  refine va_putF (D := D) (ci := 2) (v := .ref q_10) (ty := (t_M 6)) (C := R_M) (T := F_M) (N := 18) hx hb hts (iK iW_M) t_M t_M_ok n_M hown hK hP hD hS 0 rfl rfl 6 (by decide) (hts _ (kM kw_0595da16)) (fun _ h9 => h9) rfl hin rfl (by decide +kernel) rfl rfl (Nat.le_of_ble_eq_true rfl) d_M_init_43 (fun H locs hP hD hS => ?_)
  have hP : va_P D classes ([(h0, .inr (2, [.int (0 : Int32), .int 0, .int (0 : Int32), .ref q_1, .ref q_4, .ref q_7, .ref q_10, .null, .int 0, .int 0, .int 0, .null, .int 0, .null, .int 0, .int 0, .null, .null])), (q_1, .inl (cI, 24, .inl (fun _ => 0))), (q_4, .inl (cZ, 24, .inl (fun _ => 0))), (q_7, .inl (cI, 20, .inl (fun _ => 0))), (q_10, .inl (cI, 20, .inl (fun _ => 0)))]) H := hP
  have hD : va_D A ([(h0, .inr (2, [.int (0 : Int32), .int 0, .int (0 : Int32), .ref q_1, .ref q_4, .ref q_7, .ref q_10, .null, .int 0, .int 0, .int 0, .null, .int 0, .null, .int 0, .int 0, .null, .null])), (q_1, .inl (cI, 24, .inl (fun _ => 0))), (q_4, .inl (cZ, 24, .inl (fun _ => 0))), (q_7, .inl (cI, 20, .inl (fun _ => 0))), (q_10, .inl (cI, 20, .inl (fun _ => 0)))]) := hD
  refine lv_aload_n hx hb d_M_init_46 rfl (lv_at hl 0 rfl) ?_
  refine lv_iconst (v := (2 : Int32)) hx hb d_M_init_47 (by decide) ?_
  refine va_newa (atype := .boolean) (a0 := (2, .inl (fun _ => 0))) (ty := .boolean) hx hb (hts _ (kM kw_14bcb724)) rfl hK hP hD hS hA (fun _ => rfl) (by decide) (by decide) (by decide) (Nat.le_of_ble_eq_true rfl) (Nat.le_of_ble_eq_true rfl) d_M_init_48 (fun q_13 cA_15 H hK hP hD hS => ?_)
  obtain rfl : cZ = cA_15 := Option.some.inj ((va_nm_boolean (hK.2 1 _ rfl).2).symm.trans (va_nm_boolean (hK.2 2 _ rfl).2))
  have hK : va_K D classes [(cI, .int), (cZ, .boolean)] s := hK.sub [0, 1] rfl
  have hP : va_P D classes ([(h0, .inr (2, [.int (0 : Int32), .int 0, .int (0 : Int32), .ref q_1, .ref q_4, .ref q_7, .ref q_10, .null, .int 0, .int 0, .int 0, .null, .int 0, .null, .int 0, .int 0, .null, .null])), (q_1, .inl (cI, 24, .inl (fun _ => 0))), (q_4, .inl (cZ, 24, .inl (fun _ => 0))), (q_7, .inl (cI, 20, .inl (fun _ => 0))), (q_10, .inl (cI, 20, .inl (fun _ => 0))), (q_13, .inl (cZ, 2, .inl (fun _ => 0)))]) H := hP
  have hD : va_D A ([(h0, .inr (2, [.int (0 : Int32), .int 0, .int (0 : Int32), .ref q_1, .ref q_4, .ref q_7, .ref q_10, .null, .int 0, .int 0, .int 0, .null, .int 0, .null, .int 0, .int 0, .null, .null])), (q_1, .inl (cI, 24, .inl (fun _ => 0))), (q_4, .inl (cZ, 24, .inl (fun _ => 0))), (q_7, .inl (cI, 20, .inl (fun _ => 0))), (q_10, .inl (cI, 20, .inl (fun _ => 0))), (q_13, .inl (cZ, 2, .inl (fun _ => 0)))]) := hD
  refine va_putF (D := D) (ci := 2) (v := .ref q_13) (ty := (t_M 7)) (C := R_M) (T := F_M) (N := 18) hx hb hts (iK iW_M) t_M t_M_ok n_M hown hK hP hD hS 0 rfl rfl 7 (by decide) (hts _ (kM kw_e8c36500)) (fun _ h9 => h9) rfl hin rfl (by decide +kernel) rfl rfl (Nat.le_of_ble_eq_true rfl) d_M_init_50 (fun H locs hP hD hS => ?_)
  have hP : va_P D classes ([(h0, .inr (2, [.int (0 : Int32), .int 0, .int (0 : Int32), .ref q_1, .ref q_4, .ref q_7, .ref q_10, .ref q_13, .int 0, .int 0, .int 0, .null, .int 0, .null, .int 0, .int 0, .null, .null])), (q_1, .inl (cI, 24, .inl (fun _ => 0))), (q_4, .inl (cZ, 24, .inl (fun _ => 0))), (q_7, .inl (cI, 20, .inl (fun _ => 0))), (q_10, .inl (cI, 20, .inl (fun _ => 0))), (q_13, .inl (cZ, 2, .inl (fun _ => 0)))]) H := hP
  have hD : va_D A ([(h0, .inr (2, [.int (0 : Int32), .int 0, .int (0 : Int32), .ref q_1, .ref q_4, .ref q_7, .ref q_10, .ref q_13, .int 0, .int 0, .int 0, .null, .int 0, .null, .int 0, .int 0, .null, .null])), (q_1, .inl (cI, 24, .inl (fun _ => 0))), (q_4, .inl (cZ, 24, .inl (fun _ => 0))), (q_7, .inl (cI, 20, .inl (fun _ => 0))), (q_10, .inl (cI, 20, .inl (fun _ => 0))), (q_13, .inl (cZ, 2, .inl (fun _ => 0)))]) := hD
  refine lv_aload_n hx hb d_M_init_53 rfl (lv_at hl 0 rfl) ?_
  refine lv_iconst (v := (0 : Int32)) hx hb d_M_init_54 (by decide) ?_
  refine va_put (D := D) (ci := 2) (v := .int (0 : Int32)) (ty := .int) (C := R_M) (T := F_M) (N := 18) hx hb hts (iK iW_M) t_M t_M_ok n_M hown hK hP hD hS 0 rfl rfl 8 (by decide) (hts _ (kM kw_eb9287c1)) (fun _ h9 => h9) rfl (by decide +kernel) rfl rfl (Nat.le_of_ble_eq_true rfl) d_M_init_55 (fun H locs hP hD hS => ?_)
  have hP : va_P D classes ([(h0, .inr (2, [.int (0 : Int32), .int 0, .int (0 : Int32), .ref q_1, .ref q_4, .ref q_7, .ref q_10, .ref q_13, .int (0 : Int32), .int 0, .int 0, .null, .int 0, .null, .int 0, .int 0, .null, .null])), (q_1, .inl (cI, 24, .inl (fun _ => 0))), (q_4, .inl (cZ, 24, .inl (fun _ => 0))), (q_7, .inl (cI, 20, .inl (fun _ => 0))), (q_10, .inl (cI, 20, .inl (fun _ => 0))), (q_13, .inl (cZ, 2, .inl (fun _ => 0)))]) H := hP
  have hD : va_D A ([(h0, .inr (2, [.int (0 : Int32), .int 0, .int (0 : Int32), .ref q_1, .ref q_4, .ref q_7, .ref q_10, .ref q_13, .int (0 : Int32), .int 0, .int 0, .null, .int 0, .null, .int 0, .int 0, .null, .null])), (q_1, .inl (cI, 24, .inl (fun _ => 0))), (q_4, .inl (cZ, 24, .inl (fun _ => 0))), (q_7, .inl (cI, 20, .inl (fun _ => 0))), (q_10, .inl (cI, 20, .inl (fun _ => 0))), (q_13, .inl (cZ, 2, .inl (fun _ => 0)))]) := hD
  refine lv_aload_n hx hb d_M_init_58 rfl (lv_at hl 0 rfl) ?_
  refine lv_iconst (v := (0 : Int32)) hx hb d_M_init_59 (by decide) ?_
  refine va_put (D := D) (ci := 2) (v := .int (0 : Int32)) (ty := .int) (C := R_M) (T := F_M) (N := 18) hx hb hts (iK iW_M) t_M t_M_ok n_M hown hK hP hD hS 0 rfl rfl 9 (by decide) (hts _ (kM kw_1cf9ce30)) (fun _ h9 => h9) rfl (by decide +kernel) rfl rfl (Nat.le_of_ble_eq_true rfl) d_M_init_60 (fun H locs hP hD hS => ?_)
  have hP : va_P D classes ([(h0, .inr (2, [.int (0 : Int32), .int 0, .int (0 : Int32), .ref q_1, .ref q_4, .ref q_7, .ref q_10, .ref q_13, .int (0 : Int32), .int (0 : Int32), .int 0, .null, .int 0, .null, .int 0, .int 0, .null, .null])), (q_1, .inl (cI, 24, .inl (fun _ => 0))), (q_4, .inl (cZ, 24, .inl (fun _ => 0))), (q_7, .inl (cI, 20, .inl (fun _ => 0))), (q_10, .inl (cI, 20, .inl (fun _ => 0))), (q_13, .inl (cZ, 2, .inl (fun _ => 0)))]) H := hP
  have hD : va_D A ([(h0, .inr (2, [.int (0 : Int32), .int 0, .int (0 : Int32), .ref q_1, .ref q_4, .ref q_7, .ref q_10, .ref q_13, .int (0 : Int32), .int (0 : Int32), .int 0, .null, .int 0, .null, .int 0, .int 0, .null, .null])), (q_1, .inl (cI, 24, .inl (fun _ => 0))), (q_4, .inl (cZ, 24, .inl (fun _ => 0))), (q_7, .inl (cI, 20, .inl (fun _ => 0))), (q_10, .inl (cI, 20, .inl (fun _ => 0))), (q_13, .inl (cZ, 2, .inl (fun _ => 0)))]) := hD
  refine lv_aload_n hx hb d_M_init_63 rfl (lv_at hl 0 rfl) ?_
  refine lv_iconst (v := (0 : Int32)) hx hb d_M_init_64 (by decide) ?_
  refine va_put (D := D) (ci := 2) (v := .int (0 : Int32)) (ty := .int) (C := R_M) (T := F_M) (N := 18) hx hb hts (iK iW_M) t_M t_M_ok n_M hown hK hP hD hS 0 rfl rfl 10 (by decide) (hts _ (kM kw_e21e5c24)) (fun _ h9 => h9) rfl (by decide +kernel) rfl rfl (Nat.le_of_ble_eq_true rfl) d_M_init_65 (fun H locs hP hD hS => ?_)
  have hP : va_P D classes ([(h0, .inr (2, [.int (0 : Int32), .int 0, .int (0 : Int32), .ref q_1, .ref q_4, .ref q_7, .ref q_10, .ref q_13, .int (0 : Int32), .int (0 : Int32), .int (0 : Int32), .null, .int 0, .null, .int 0, .int 0, .null, .null])), (q_1, .inl (cI, 24, .inl (fun _ => 0))), (q_4, .inl (cZ, 24, .inl (fun _ => 0))), (q_7, .inl (cI, 20, .inl (fun _ => 0))), (q_10, .inl (cI, 20, .inl (fun _ => 0))), (q_13, .inl (cZ, 2, .inl (fun _ => 0)))]) H := hP
  have hD : va_D A ([(h0, .inr (2, [.int (0 : Int32), .int 0, .int (0 : Int32), .ref q_1, .ref q_4, .ref q_7, .ref q_10, .ref q_13, .int (0 : Int32), .int (0 : Int32), .int (0 : Int32), .null, .int 0, .null, .int 0, .int 0, .null, .null])), (q_1, .inl (cI, 24, .inl (fun _ => 0))), (q_4, .inl (cZ, 24, .inl (fun _ => 0))), (q_7, .inl (cI, 20, .inl (fun _ => 0))), (q_10, .inl (cI, 20, .inl (fun _ => 0))), (q_13, .inl (cZ, 2, .inl (fun _ => 0)))]) := hD
  refine lv_aload_n hx hb d_M_init_68 rfl (lv_at hl 0 rfl) ?_
  refine lv_bipush (v := (8 : Int32)) hx hb d_M_init_69 (by decide) ?_
  refine va_newa (atype := .int) (a0 := (8, .inl (fun _ => 0))) (ty := .int) hx hb (hts _ (kM kw_8e969fb2)) rfl hK hP hD hS hA (fun _ => rfl) (by decide) (by decide) (by decide) (Nat.le_of_ble_eq_true rfl) (Nat.le_of_ble_eq_true rfl) d_M_init_71 (fun q_16 cA_18 H hK hP hD hS => ?_)
  obtain rfl : cI = cA_18 := Option.some.inj ((va_nm_int (hK.2 0 _ rfl).2).symm.trans (va_nm_int (hK.2 2 _ rfl).2))
  have hK : va_K D classes [(cI, .int), (cZ, .boolean)] s := hK.sub [0, 1] rfl
  have hP : va_P D classes ([(h0, .inr (2, [.int (0 : Int32), .int 0, .int (0 : Int32), .ref q_1, .ref q_4, .ref q_7, .ref q_10, .ref q_13, .int (0 : Int32), .int (0 : Int32), .int (0 : Int32), .null, .int 0, .null, .int 0, .int 0, .null, .null])), (q_1, .inl (cI, 24, .inl (fun _ => 0))), (q_4, .inl (cZ, 24, .inl (fun _ => 0))), (q_7, .inl (cI, 20, .inl (fun _ => 0))), (q_10, .inl (cI, 20, .inl (fun _ => 0))), (q_13, .inl (cZ, 2, .inl (fun _ => 0))), (q_16, .inl (cI, 8, .inl (fun _ => 0)))]) H := hP
  have hD : va_D A ([(h0, .inr (2, [.int (0 : Int32), .int 0, .int (0 : Int32), .ref q_1, .ref q_4, .ref q_7, .ref q_10, .ref q_13, .int (0 : Int32), .int (0 : Int32), .int (0 : Int32), .null, .int 0, .null, .int 0, .int 0, .null, .null])), (q_1, .inl (cI, 24, .inl (fun _ => 0))), (q_4, .inl (cZ, 24, .inl (fun _ => 0))), (q_7, .inl (cI, 20, .inl (fun _ => 0))), (q_10, .inl (cI, 20, .inl (fun _ => 0))), (q_13, .inl (cZ, 2, .inl (fun _ => 0))), (q_16, .inl (cI, 8, .inl (fun _ => 0)))]) := hD
  refine va_putF (D := D) (ci := 2) (v := .ref q_16) (ty := (t_M 11)) (C := R_M) (T := F_M) (N := 18) hx hb hts (iK iW_M) t_M t_M_ok n_M hown hK hP hD hS 0 rfl rfl 11 (by decide) (hts _ (kM kw_0bf6b78c)) (fun _ h9 => h9) rfl hin rfl (by decide +kernel) rfl rfl (Nat.le_of_ble_eq_true rfl) d_M_init_73 (fun H locs hP hD hS => ?_)
  have hP : va_P D classes ([(h0, .inr (2, [.int (0 : Int32), .int 0, .int (0 : Int32), .ref q_1, .ref q_4, .ref q_7, .ref q_10, .ref q_13, .int (0 : Int32), .int (0 : Int32), .int (0 : Int32), .ref q_16, .int 0, .null, .int 0, .int 0, .null, .null])), (q_1, .inl (cI, 24, .inl (fun _ => 0))), (q_4, .inl (cZ, 24, .inl (fun _ => 0))), (q_7, .inl (cI, 20, .inl (fun _ => 0))), (q_10, .inl (cI, 20, .inl (fun _ => 0))), (q_13, .inl (cZ, 2, .inl (fun _ => 0))), (q_16, .inl (cI, 8, .inl (fun _ => 0)))]) H := hP
  have hD : va_D A ([(h0, .inr (2, [.int (0 : Int32), .int 0, .int (0 : Int32), .ref q_1, .ref q_4, .ref q_7, .ref q_10, .ref q_13, .int (0 : Int32), .int (0 : Int32), .int (0 : Int32), .ref q_16, .int 0, .null, .int 0, .int 0, .null, .null])), (q_1, .inl (cI, 24, .inl (fun _ => 0))), (q_4, .inl (cZ, 24, .inl (fun _ => 0))), (q_7, .inl (cI, 20, .inl (fun _ => 0))), (q_10, .inl (cI, 20, .inl (fun _ => 0))), (q_13, .inl (cZ, 2, .inl (fun _ => 0))), (q_16, .inl (cI, 8, .inl (fun _ => 0)))]) := hD
  refine lv_aload_n hx hb d_M_init_76 rfl (lv_at hl 0 rfl) ?_
  refine lv_iconst (v := (0 : Int32)) hx hb d_M_init_77 (by decide) ?_
  refine va_put (D := D) (ci := 2) (v := .int (0 : Int32)) (ty := .int) (C := R_M) (T := F_M) (N := 18) hx hb hts (iK iW_M) t_M t_M_ok n_M hown hK hP hD hS 0 rfl rfl 12 (by decide) (hts _ (kM kw_29a007b6)) (fun _ h9 => h9) rfl (by decide +kernel) rfl rfl (Nat.le_of_ble_eq_true rfl) d_M_init_78 (fun H locs hP hD hS => ?_)
  have hP : va_P D classes ([(h0, .inr (2, [.int (0 : Int32), .int 0, .int (0 : Int32), .ref q_1, .ref q_4, .ref q_7, .ref q_10, .ref q_13, .int (0 : Int32), .int (0 : Int32), .int (0 : Int32), .ref q_16, .int (0 : Int32), .null, .int 0, .int 0, .null, .null])), (q_1, .inl (cI, 24, .inl (fun _ => 0))), (q_4, .inl (cZ, 24, .inl (fun _ => 0))), (q_7, .inl (cI, 20, .inl (fun _ => 0))), (q_10, .inl (cI, 20, .inl (fun _ => 0))), (q_13, .inl (cZ, 2, .inl (fun _ => 0))), (q_16, .inl (cI, 8, .inl (fun _ => 0)))]) H := hP
  have hD : va_D A ([(h0, .inr (2, [.int (0 : Int32), .int 0, .int (0 : Int32), .ref q_1, .ref q_4, .ref q_7, .ref q_10, .ref q_13, .int (0 : Int32), .int (0 : Int32), .int (0 : Int32), .ref q_16, .int (0 : Int32), .null, .int 0, .int 0, .null, .null])), (q_1, .inl (cI, 24, .inl (fun _ => 0))), (q_4, .inl (cZ, 24, .inl (fun _ => 0))), (q_7, .inl (cI, 20, .inl (fun _ => 0))), (q_10, .inl (cI, 20, .inl (fun _ => 0))), (q_13, .inl (cZ, 2, .inl (fun _ => 0))), (q_16, .inl (cI, 8, .inl (fun _ => 0)))]) := hD
  refine lv_aload_n hx hb d_M_init_81 rfl (lv_at hl 0 rfl) ?_
  refine lv_bipush (v := (8 : Int32)) hx hb d_M_init_82 (by decide) ?_
  refine va_newa (atype := .int) (a0 := (8, .inl (fun _ => 0))) (ty := .int) hx hb (hts _ (kM kw_8e969fb2)) rfl hK hP hD hS hA (fun _ => rfl) (by decide) (by decide) (by decide) (Nat.le_of_ble_eq_true rfl) (Nat.le_of_ble_eq_true rfl) d_M_init_84 (fun q_19 cA_21 H hK hP hD hS => ?_)
  obtain rfl : cI = cA_21 := Option.some.inj ((va_nm_int (hK.2 0 _ rfl).2).symm.trans (va_nm_int (hK.2 2 _ rfl).2))
  have hK : va_K D classes [(cI, .int), (cZ, .boolean)] s := hK.sub [0, 1] rfl
  have hP : va_P D classes ([(h0, .inr (2, [.int (0 : Int32), .int 0, .int (0 : Int32), .ref q_1, .ref q_4, .ref q_7, .ref q_10, .ref q_13, .int (0 : Int32), .int (0 : Int32), .int (0 : Int32), .ref q_16, .int (0 : Int32), .null, .int 0, .int 0, .null, .null])), (q_1, .inl (cI, 24, .inl (fun _ => 0))), (q_4, .inl (cZ, 24, .inl (fun _ => 0))), (q_7, .inl (cI, 20, .inl (fun _ => 0))), (q_10, .inl (cI, 20, .inl (fun _ => 0))), (q_13, .inl (cZ, 2, .inl (fun _ => 0))), (q_16, .inl (cI, 8, .inl (fun _ => 0))), (q_19, .inl (cI, 8, .inl (fun _ => 0)))]) H := hP
  have hD : va_D A ([(h0, .inr (2, [.int (0 : Int32), .int 0, .int (0 : Int32), .ref q_1, .ref q_4, .ref q_7, .ref q_10, .ref q_13, .int (0 : Int32), .int (0 : Int32), .int (0 : Int32), .ref q_16, .int (0 : Int32), .null, .int 0, .int 0, .null, .null])), (q_1, .inl (cI, 24, .inl (fun _ => 0))), (q_4, .inl (cZ, 24, .inl (fun _ => 0))), (q_7, .inl (cI, 20, .inl (fun _ => 0))), (q_10, .inl (cI, 20, .inl (fun _ => 0))), (q_13, .inl (cZ, 2, .inl (fun _ => 0))), (q_16, .inl (cI, 8, .inl (fun _ => 0))), (q_19, .inl (cI, 8, .inl (fun _ => 0)))]) := hD
  refine va_putF (D := D) (ci := 2) (v := .ref q_19) (ty := (t_M 13)) (C := R_M) (T := F_M) (N := 18) hx hb hts (iK iW_M) t_M t_M_ok n_M hown hK hP hD hS 0 rfl rfl 13 (by decide) (hts _ (kM kw_f176d92d)) (fun _ h9 => h9) rfl hin rfl (by decide +kernel) rfl rfl (Nat.le_of_ble_eq_true rfl) d_M_init_86 (fun H locs hP hD hS => ?_)
  have hP : va_P D classes ([(h0, .inr (2, [.int (0 : Int32), .int 0, .int (0 : Int32), .ref q_1, .ref q_4, .ref q_7, .ref q_10, .ref q_13, .int (0 : Int32), .int (0 : Int32), .int (0 : Int32), .ref q_16, .int (0 : Int32), .ref q_19, .int 0, .int 0, .null, .null])), (q_1, .inl (cI, 24, .inl (fun _ => 0))), (q_4, .inl (cZ, 24, .inl (fun _ => 0))), (q_7, .inl (cI, 20, .inl (fun _ => 0))), (q_10, .inl (cI, 20, .inl (fun _ => 0))), (q_13, .inl (cZ, 2, .inl (fun _ => 0))), (q_16, .inl (cI, 8, .inl (fun _ => 0))), (q_19, .inl (cI, 8, .inl (fun _ => 0)))]) H := hP
  have hD : va_D A ([(h0, .inr (2, [.int (0 : Int32), .int 0, .int (0 : Int32), .ref q_1, .ref q_4, .ref q_7, .ref q_10, .ref q_13, .int (0 : Int32), .int (0 : Int32), .int (0 : Int32), .ref q_16, .int (0 : Int32), .ref q_19, .int 0, .int 0, .null, .null])), (q_1, .inl (cI, 24, .inl (fun _ => 0))), (q_4, .inl (cZ, 24, .inl (fun _ => 0))), (q_7, .inl (cI, 20, .inl (fun _ => 0))), (q_10, .inl (cI, 20, .inl (fun _ => 0))), (q_13, .inl (cZ, 2, .inl (fun _ => 0))), (q_16, .inl (cI, 8, .inl (fun _ => 0))), (q_19, .inl (cI, 8, .inl (fun _ => 0)))]) := hD
  refine lv_aload_n hx hb d_M_init_89 rfl (lv_at hl 0 rfl) ?_
  refine lv_iconst (v := (0 : Int32)) hx hb d_M_init_90 (by decide) ?_
  refine va_put (D := D) (ci := 2) (v := .int (0 : Int32)) (ty := .boolean) (C := R_M) (T := F_M) (N := 18) hx hb hts (iK iW_M) t_M t_M_ok n_M hown hK hP hD hS 0 rfl rfl 14 (by decide) (hts _ (kM kw_685c8329)) (fun _ h9 => h9) rfl (by decide +kernel) rfl rfl (Nat.le_of_ble_eq_true rfl) d_M_init_91 (fun H locs hP hD hS => ?_)
  have hP : va_P D classes ([(h0, .inr (2, [.int (0 : Int32), .int 0, .int (0 : Int32), .ref q_1, .ref q_4, .ref q_7, .ref q_10, .ref q_13, .int (0 : Int32), .int (0 : Int32), .int (0 : Int32), .ref q_16, .int (0 : Int32), .ref q_19, .int (0 : Int32), .int 0, .null, .null])), (q_1, .inl (cI, 24, .inl (fun _ => 0))), (q_4, .inl (cZ, 24, .inl (fun _ => 0))), (q_7, .inl (cI, 20, .inl (fun _ => 0))), (q_10, .inl (cI, 20, .inl (fun _ => 0))), (q_13, .inl (cZ, 2, .inl (fun _ => 0))), (q_16, .inl (cI, 8, .inl (fun _ => 0))), (q_19, .inl (cI, 8, .inl (fun _ => 0)))]) H := hP
  have hD : va_D A ([(h0, .inr (2, [.int (0 : Int32), .int 0, .int (0 : Int32), .ref q_1, .ref q_4, .ref q_7, .ref q_10, .ref q_13, .int (0 : Int32), .int (0 : Int32), .int (0 : Int32), .ref q_16, .int (0 : Int32), .ref q_19, .int (0 : Int32), .int 0, .null, .null])), (q_1, .inl (cI, 24, .inl (fun _ => 0))), (q_4, .inl (cZ, 24, .inl (fun _ => 0))), (q_7, .inl (cI, 20, .inl (fun _ => 0))), (q_10, .inl (cI, 20, .inl (fun _ => 0))), (q_13, .inl (cZ, 2, .inl (fun _ => 0))), (q_16, .inl (cI, 8, .inl (fun _ => 0))), (q_19, .inl (cI, 8, .inl (fun _ => 0)))]) := hD
  refine lv_aload_n hx hb d_M_init_94 rfl (lv_at hl 0 rfl) ?_
  refine lv_iconst (v := (0 : Int32)) hx hb d_M_init_95 (by decide) ?_
  refine va_put (D := D) (ci := 2) (v := .int (0 : Int32)) (ty := .int) (C := R_M) (T := F_M) (N := 18) hx hb hts (iK iW_M) t_M t_M_ok n_M hown hK hP hD hS 0 rfl rfl 15 (by decide) (hts _ (kM kw_545b2532)) (fun _ h9 => h9) rfl (by decide +kernel) rfl rfl (Nat.le_of_ble_eq_true rfl) d_M_init_96 (fun H locs hP hD hS => ?_)
  have hP : va_P D classes ([(h0, .inr (2, [.int (0 : Int32), .int 0, .int (0 : Int32), .ref q_1, .ref q_4, .ref q_7, .ref q_10, .ref q_13, .int (0 : Int32), .int (0 : Int32), .int (0 : Int32), .ref q_16, .int (0 : Int32), .ref q_19, .int (0 : Int32), .int (0 : Int32), .null, .null])), (q_1, .inl (cI, 24, .inl (fun _ => 0))), (q_4, .inl (cZ, 24, .inl (fun _ => 0))), (q_7, .inl (cI, 20, .inl (fun _ => 0))), (q_10, .inl (cI, 20, .inl (fun _ => 0))), (q_13, .inl (cZ, 2, .inl (fun _ => 0))), (q_16, .inl (cI, 8, .inl (fun _ => 0))), (q_19, .inl (cI, 8, .inl (fun _ => 0)))]) H := hP
  have hD : va_D A ([(h0, .inr (2, [.int (0 : Int32), .int 0, .int (0 : Int32), .ref q_1, .ref q_4, .ref q_7, .ref q_10, .ref q_13, .int (0 : Int32), .int (0 : Int32), .int (0 : Int32), .ref q_16, .int (0 : Int32), .ref q_19, .int (0 : Int32), .int (0 : Int32), .null, .null])), (q_1, .inl (cI, 24, .inl (fun _ => 0))), (q_4, .inl (cZ, 24, .inl (fun _ => 0))), (q_7, .inl (cI, 20, .inl (fun _ => 0))), (q_10, .inl (cI, 20, .inl (fun _ => 0))), (q_13, .inl (cZ, 2, .inl (fun _ => 0))), (q_16, .inl (cI, 8, .inl (fun _ => 0))), (q_19, .inl (cI, 8, .inl (fun _ => 0)))]) := hD
  refine lv_aload_n hx hb d_M_init_99 rfl (lv_at hl 0 rfl) ?_
  refine lv_bipush (v := (8 : Int32)) hx hb d_M_init_100 (by decide) ?_
  refine va_newa (atype := .int) (a0 := (8, .inl (fun _ => 0))) (ty := .int) hx hb (hts _ (kM kw_8e969fb2)) rfl hK hP hD hS hA (fun _ => rfl) (by decide) (by decide) (by decide) (Nat.le_of_ble_eq_true rfl) (Nat.le_of_ble_eq_true rfl) d_M_init_102 (fun q_22 cA_24 H hK hP hD hS => ?_)
  obtain rfl : cI = cA_24 := Option.some.inj ((va_nm_int (hK.2 0 _ rfl).2).symm.trans (va_nm_int (hK.2 2 _ rfl).2))
  have hK : va_K D classes [(cI, .int), (cZ, .boolean)] s := hK.sub [0, 1] rfl
  have hP : va_P D classes ([(h0, .inr (2, [.int (0 : Int32), .int 0, .int (0 : Int32), .ref q_1, .ref q_4, .ref q_7, .ref q_10, .ref q_13, .int (0 : Int32), .int (0 : Int32), .int (0 : Int32), .ref q_16, .int (0 : Int32), .ref q_19, .int (0 : Int32), .int (0 : Int32), .null, .null])), (q_1, .inl (cI, 24, .inl (fun _ => 0))), (q_4, .inl (cZ, 24, .inl (fun _ => 0))), (q_7, .inl (cI, 20, .inl (fun _ => 0))), (q_10, .inl (cI, 20, .inl (fun _ => 0))), (q_13, .inl (cZ, 2, .inl (fun _ => 0))), (q_16, .inl (cI, 8, .inl (fun _ => 0))), (q_19, .inl (cI, 8, .inl (fun _ => 0))), (q_22, .inl (cI, 8, .inl (fun _ => 0)))]) H := hP
  have hD : va_D A ([(h0, .inr (2, [.int (0 : Int32), .int 0, .int (0 : Int32), .ref q_1, .ref q_4, .ref q_7, .ref q_10, .ref q_13, .int (0 : Int32), .int (0 : Int32), .int (0 : Int32), .ref q_16, .int (0 : Int32), .ref q_19, .int (0 : Int32), .int (0 : Int32), .null, .null])), (q_1, .inl (cI, 24, .inl (fun _ => 0))), (q_4, .inl (cZ, 24, .inl (fun _ => 0))), (q_7, .inl (cI, 20, .inl (fun _ => 0))), (q_10, .inl (cI, 20, .inl (fun _ => 0))), (q_13, .inl (cZ, 2, .inl (fun _ => 0))), (q_16, .inl (cI, 8, .inl (fun _ => 0))), (q_19, .inl (cI, 8, .inl (fun _ => 0))), (q_22, .inl (cI, 8, .inl (fun _ => 0)))]) := hD
  refine va_putF (D := D) (ci := 2) (v := .ref q_22) (ty := (t_M 16)) (C := R_M) (T := F_M) (N := 18) hx hb hts (iK iW_M) t_M t_M_ok n_M hown hK hP hD hS 0 rfl rfl 16 (by decide) (hts _ (kM kw_97fc661c)) (fun _ h9 => h9) rfl hin rfl (by decide +kernel) rfl rfl (Nat.le_of_ble_eq_true rfl) d_M_init_104 (fun H locs hP hD hS => ?_)
  have hP : va_P D classes ([(h0, .inr (2, [.int (0 : Int32), .int 0, .int (0 : Int32), .ref q_1, .ref q_4, .ref q_7, .ref q_10, .ref q_13, .int (0 : Int32), .int (0 : Int32), .int (0 : Int32), .ref q_16, .int (0 : Int32), .ref q_19, .int (0 : Int32), .int (0 : Int32), .ref q_22, .null])), (q_1, .inl (cI, 24, .inl (fun _ => 0))), (q_4, .inl (cZ, 24, .inl (fun _ => 0))), (q_7, .inl (cI, 20, .inl (fun _ => 0))), (q_10, .inl (cI, 20, .inl (fun _ => 0))), (q_13, .inl (cZ, 2, .inl (fun _ => 0))), (q_16, .inl (cI, 8, .inl (fun _ => 0))), (q_19, .inl (cI, 8, .inl (fun _ => 0))), (q_22, .inl (cI, 8, .inl (fun _ => 0)))]) H := hP
  have hD : va_D A ([(h0, .inr (2, [.int (0 : Int32), .int 0, .int (0 : Int32), .ref q_1, .ref q_4, .ref q_7, .ref q_10, .ref q_13, .int (0 : Int32), .int (0 : Int32), .int (0 : Int32), .ref q_16, .int (0 : Int32), .ref q_19, .int (0 : Int32), .int (0 : Int32), .ref q_22, .null])), (q_1, .inl (cI, 24, .inl (fun _ => 0))), (q_4, .inl (cZ, 24, .inl (fun _ => 0))), (q_7, .inl (cI, 20, .inl (fun _ => 0))), (q_10, .inl (cI, 20, .inl (fun _ => 0))), (q_13, .inl (cZ, 2, .inl (fun _ => 0))), (q_16, .inl (cI, 8, .inl (fun _ => 0))), (q_19, .inl (cI, 8, .inl (fun _ => 0))), (q_22, .inl (cI, 8, .inl (fun _ => 0)))]) := hD
  refine lv_aload_n hx hb d_M_init_107 rfl (lv_at hl 0 rfl) ?_
  refine lv_bipush (v := (8 : Int32)) hx hb d_M_init_108 (by decide) ?_
  refine va_newa (atype := .int) (a0 := (8, .inl (fun _ => 0))) (ty := .int) hx hb (hts _ (kM kw_8e969fb2)) rfl hK hP hD hS hA (fun _ => rfl) (by decide) (by decide) (by decide) (Nat.le_of_ble_eq_true rfl) (Nat.le_of_ble_eq_true rfl) d_M_init_110 (fun q_25 cA_27 H hK hP hD hS => ?_)
  obtain rfl : cI = cA_27 := Option.some.inj ((va_nm_int (hK.2 0 _ rfl).2).symm.trans (va_nm_int (hK.2 2 _ rfl).2))
  have hK : va_K D classes [(cI, .int), (cZ, .boolean)] s := hK.sub [0, 1] rfl
  have hP : va_P D classes ([(h0, .inr (2, [.int (0 : Int32), .int 0, .int (0 : Int32), .ref q_1, .ref q_4, .ref q_7, .ref q_10, .ref q_13, .int (0 : Int32), .int (0 : Int32), .int (0 : Int32), .ref q_16, .int (0 : Int32), .ref q_19, .int (0 : Int32), .int (0 : Int32), .ref q_22, .null])), (q_1, .inl (cI, 24, .inl (fun _ => 0))), (q_4, .inl (cZ, 24, .inl (fun _ => 0))), (q_7, .inl (cI, 20, .inl (fun _ => 0))), (q_10, .inl (cI, 20, .inl (fun _ => 0))), (q_13, .inl (cZ, 2, .inl (fun _ => 0))), (q_16, .inl (cI, 8, .inl (fun _ => 0))), (q_19, .inl (cI, 8, .inl (fun _ => 0))), (q_22, .inl (cI, 8, .inl (fun _ => 0))), (q_25, .inl (cI, 8, .inl (fun _ => 0)))]) H := hP
  have hD : va_D A ([(h0, .inr (2, [.int (0 : Int32), .int 0, .int (0 : Int32), .ref q_1, .ref q_4, .ref q_7, .ref q_10, .ref q_13, .int (0 : Int32), .int (0 : Int32), .int (0 : Int32), .ref q_16, .int (0 : Int32), .ref q_19, .int (0 : Int32), .int (0 : Int32), .ref q_22, .null])), (q_1, .inl (cI, 24, .inl (fun _ => 0))), (q_4, .inl (cZ, 24, .inl (fun _ => 0))), (q_7, .inl (cI, 20, .inl (fun _ => 0))), (q_10, .inl (cI, 20, .inl (fun _ => 0))), (q_13, .inl (cZ, 2, .inl (fun _ => 0))), (q_16, .inl (cI, 8, .inl (fun _ => 0))), (q_19, .inl (cI, 8, .inl (fun _ => 0))), (q_22, .inl (cI, 8, .inl (fun _ => 0))), (q_25, .inl (cI, 8, .inl (fun _ => 0)))]) := hD
  refine va_putF (D := D) (ci := 2) (v := .ref q_25) (ty := (t_M 17)) (C := R_M) (T := F_M) (N := 18) hx hb hts (iK iW_M) t_M t_M_ok n_M hown hK hP hD hS 0 rfl rfl 17 (by decide) (hts _ (kM kw_b638f234)) (fun _ h9 => h9) rfl hin rfl (by decide +kernel) rfl rfl (Nat.le_of_ble_eq_true rfl) d_M_init_112 (fun H locs hP hD hS => ?_)
  have hP : va_P D classes ([(h0, .inr (2, [.int (0 : Int32), .int 0, .int (0 : Int32), .ref q_1, .ref q_4, .ref q_7, .ref q_10, .ref q_13, .int (0 : Int32), .int (0 : Int32), .int (0 : Int32), .ref q_16, .int (0 : Int32), .ref q_19, .int (0 : Int32), .int (0 : Int32), .ref q_22, .ref q_25])), (q_1, .inl (cI, 24, .inl (fun _ => 0))), (q_4, .inl (cZ, 24, .inl (fun _ => 0))), (q_7, .inl (cI, 20, .inl (fun _ => 0))), (q_10, .inl (cI, 20, .inl (fun _ => 0))), (q_13, .inl (cZ, 2, .inl (fun _ => 0))), (q_16, .inl (cI, 8, .inl (fun _ => 0))), (q_19, .inl (cI, 8, .inl (fun _ => 0))), (q_22, .inl (cI, 8, .inl (fun _ => 0))), (q_25, .inl (cI, 8, .inl (fun _ => 0)))]) H := hP
  have hD : va_D A ([(h0, .inr (2, [.int (0 : Int32), .int 0, .int (0 : Int32), .ref q_1, .ref q_4, .ref q_7, .ref q_10, .ref q_13, .int (0 : Int32), .int (0 : Int32), .int (0 : Int32), .ref q_16, .int (0 : Int32), .ref q_19, .int (0 : Int32), .int (0 : Int32), .ref q_22, .ref q_25])), (q_1, .inl (cI, 24, .inl (fun _ => 0))), (q_4, .inl (cZ, 24, .inl (fun _ => 0))), (q_7, .inl (cI, 20, .inl (fun _ => 0))), (q_10, .inl (cI, 20, .inl (fun _ => 0))), (q_13, .inl (cZ, 2, .inl (fun _ => 0))), (q_16, .inl (cI, 8, .inl (fun _ => 0))), (q_19, .inl (cI, 8, .inl (fun _ => 0))), (q_22, .inl (cI, 8, .inl (fun _ => 0))), (q_25, .inl (cI, 8, .inl (fun _ => 0)))]) := hD
  refine lv_aload_n hx hb d_M_init_115 rfl (lv_at hl 0 rfl) ?_
  refine lv_iload_n hx hb d_M_init_116 rfl (lv_at hl 1 rfl) ?_
  refine lv_if_ge (tgt := 124) hx hb d_M_init_117 (by decide) (fun c_28 => ?_) (fun c_28 => ?_)
  · have hw := hw.1 c_28
    refine lv_iload_n hx hb d_M_init_124 rfl (lv_at hl 1 rfl) ?_
    refine lv_bipush (v := (24 : Int32)) hx hb d_M_init_125 (by decide) ?_
    refine lv_icmp_le (tgt := 135) hx hb d_M_init_127 (by decide) (fun c_29 => ?_) (fun c_29 => ?_)
    · have hw := hw.1 c_29
      refine lv_iload_n hx hb d_M_init_135 rfl (lv_at hl 1 rfl) ?_
      refine va_putF (D := D) (ci := 2) (v := .int x1) (ty := .int) (C := R_M) (T := F_M) (N := 18) hx hb hts (iK iW_M) t_M t_M_ok n_M hown hK hP hD hS 0 rfl rfl 1 (by decide) (hts _ (kM kw_7139d127)) (fun _ h9 => h9) rfl hin rfl (by decide +kernel) rfl rfl (Nat.le_of_ble_eq_true rfl) d_M_init_136 (fun H locs hP hD hS => ?_)
      have hP : va_P D classes ([(h0, .inr (2, [.int (0 : Int32), .int x1, .int (0 : Int32), .ref q_1, .ref q_4, .ref q_7, .ref q_10, .ref q_13, .int (0 : Int32), .int (0 : Int32), .int (0 : Int32), .ref q_16, .int (0 : Int32), .ref q_19, .int (0 : Int32), .int (0 : Int32), .ref q_22, .ref q_25])), (q_1, .inl (cI, 24, .inl (fun _ => 0))), (q_4, .inl (cZ, 24, .inl (fun _ => 0))), (q_7, .inl (cI, 20, .inl (fun _ => 0))), (q_10, .inl (cI, 20, .inl (fun _ => 0))), (q_13, .inl (cZ, 2, .inl (fun _ => 0))), (q_16, .inl (cI, 8, .inl (fun _ => 0))), (q_19, .inl (cI, 8, .inl (fun _ => 0))), (q_22, .inl (cI, 8, .inl (fun _ => 0))), (q_25, .inl (cI, 8, .inl (fun _ => 0)))]) H := hP
      have hD : va_D A ([(h0, .inr (2, [.int (0 : Int32), .int x1, .int (0 : Int32), .ref q_1, .ref q_4, .ref q_7, .ref q_10, .ref q_13, .int (0 : Int32), .int (0 : Int32), .int (0 : Int32), .ref q_16, .int (0 : Int32), .ref q_19, .int (0 : Int32), .int (0 : Int32), .ref q_22, .ref q_25])), (q_1, .inl (cI, 24, .inl (fun _ => 0))), (q_4, .inl (cZ, 24, .inl (fun _ => 0))), (q_7, .inl (cI, 20, .inl (fun _ => 0))), (q_10, .inl (cI, 20, .inl (fun _ => 0))), (q_13, .inl (cZ, 2, .inl (fun _ => 0))), (q_16, .inl (cI, 8, .inl (fun _ => 0))), (q_19, .inl (cI, 8, .inl (fun _ => 0))), (q_22, .inl (cI, 8, .inl (fun _ => 0))), (q_25, .inl (cI, 8, .inl (fun _ => 0)))]) := hD
      refine lv_iconst (v := (0 : Int32)) hx hb d_M_init_139 (by decide) ?_
      refine lv_istore_n (lv' := [(2, .int (0 : Int32)), (0, .ref h0), (1, .int x1)]) hx hb d_M_init_140 rfl hl (by decide) rfl (fun ls hl => ?_)
      obtain ⟨K_141, hK_141⟩ : ∃ z : Int32 → (Nat → Int32) → Prop, z = (fun (k_36 : Int32) (k_37 : Nat → Int32) => (∃ n, p_M_init_L162 (fun (k_44 : Int32) (k_45 : Nat → Int32) => post (0 : Int32) x1 (0 : Int32) (0 : Int32) (0 : Int32) (0 : Int32) (0 : Int32) (0 : Int32) (0 : Int32) k_37 (fun _ => 0) k_45 (fun _ => 0) (fun _ => 0) (fun _ => 0) (fun _ => 0) (fun _ => 0) (fun _ => 0)) n (0 : Int32) (fun _ => 0))) := ⟨_, rfl⟩
      have hw : ∃ n, p_M_init_L141 K_141 n (0 : Int32) (fun _ => 0) := by rw [hK_141]; exact hw
      obtain ⟨n_141, hw⟩ := hw
      have key_141 : ∀ (n : Nat) (x2_32 : Int32) (m_placeOf_33 : Nat → Int32) (H : Heap) (locs : List Loc) (ls : Array Slot), p_M_init_L141 K_141 n x2_32 m_placeOf_33 → va_P D classes ([(h0, .inr (2, [.int ((0 : Int32)), .int x1, .int ((0 : Int32)), .ref q_1, .ref q_4, .ref q_7, .ref q_10, .ref q_13, .int ((0 : Int32)), .int ((0 : Int32)), .int ((0 : Int32)), .ref q_16, .int ((0 : Int32)), .ref q_19, .int ((0 : Int32)), .int ((0 : Int32)), .ref q_22, .ref q_25])), (q_1, .inl (cI, 24, .inl m_placeOf_33)), (q_4, .inl (cZ, 24, .inl (fun _ => 0))), (q_7, .inl (cI, 20, .inl (fun _ => 0))), (q_10, .inl (cI, 20, .inl (fun _ => 0))), (q_13, .inl (cZ, 2, .inl (fun _ => 0))), (q_16, .inl (cI, 8, .inl (fun _ => 0))), (q_19, .inl (cI, 8, .inl (fun _ => 0))), (q_22, .inl (cI, 8, .inl (fun _ => 0))), (q_25, .inl (cI, 8, .inl (fun _ => 0)))]) H → va_D A ([(h0, .inr (2, [.int ((0 : Int32)), .int x1, .int ((0 : Int32)), .ref q_1, .ref q_4, .ref q_7, .ref q_10, .ref q_13, .int ((0 : Int32)), .int ((0 : Int32)), .int ((0 : Int32)), .ref q_16, .int ((0 : Int32)), .ref q_19, .int ((0 : Int32)), .int ((0 : Int32)), .ref q_22, .ref q_25])), (q_1, .inl (cI, 24, .inl m_placeOf_33)), (q_4, .inl (cZ, 24, .inl (fun _ => 0))), (q_7, .inl (cI, 20, .inl (fun _ => 0))), (q_10, .inl (cI, 20, .inl (fun _ => 0))), (q_13, .inl (cZ, 2, .inl (fun _ => 0))), (q_16, .inl (cI, 8, .inl (fun _ => 0))), (q_19, .inl (cI, 8, .inl (fun _ => 0))), (q_22, .inl (cI, 8, .inl (fun _ => 0))), (q_25, .inl (cI, 8, .inl (fun _ => 0)))]) → va_S A s.heap H locs → lv_has ls 3 [(2, .int x2_32), (0, .ref h0), (1, .int x1)] → W p l e (headSpec w_M_init rm_M_init).room s m ([.ref h0, .int x1] : List Value).toArray below meth c H locs 9 122 (MQ below (va_Qv (fun (u : List Nat × Int32 × Int32 × Int32 × Int32 × Int32 × Int32 × Int32 × Int32 × Int32 × (Nat → Int32) × (Nat → Int32) × (Nat → Int32) × (Nat → Int32) × (Nat → Int32) × (Nat → Int32) × (Nat → Int32) × (Nat → Int32) × (Nat → Int32)) => post u.2.1 u.2.2.1 u.2.2.2.1 u.2.2.2.2.1 u.2.2.2.2.2.1 u.2.2.2.2.2.2.1 u.2.2.2.2.2.2.2.1 u.2.2.2.2.2.2.2.2.1 u.2.2.2.2.2.2.2.2.2.1 u.2.2.2.2.2.2.2.2.2.2.1 u.2.2.2.2.2.2.2.2.2.2.2.1 u.2.2.2.2.2.2.2.2.2.2.2.2.1 u.2.2.2.2.2.2.2.2.2.2.2.2.2.1 u.2.2.2.2.2.2.2.2.2.2.2.2.2.2.1 u.2.2.2.2.2.2.2.2.2.2.2.2.2.2.2.1 u.2.2.2.2.2.2.2.2.2.2.2.2.2.2.2.2.1 u.2.2.2.2.2.2.2.2.2.2.2.2.2.2.2.2.2.1 u.2.2.2.2.2.2.2.2.2.2.2.2.2.2.2.2.2.2) (fun (u : List Nat × Int32 × Int32 × Int32 × Int32 × Int32 × Int32 × Int32 × Int32 × Int32 × (Nat → Int32) × (Nat → Int32) × (Nat → Int32) × (Nat → Int32) × (Nat → Int32) × (Nat → Int32) × (Nat → Int32) × (Nat → Int32) × (Nat → Int32)) t => va_P D classes (mW (adM h0 u.1) cI cZ u.2.1 u.2.2.1 u.2.2.2.1 u.2.2.2.2.1 u.2.2.2.2.2.1 u.2.2.2.2.2.2.1 u.2.2.2.2.2.2.2.1 u.2.2.2.2.2.2.2.2.1 u.2.2.2.2.2.2.2.2.2.1 u.2.2.2.2.2.2.2.2.2.2.1 u.2.2.2.2.2.2.2.2.2.2.2.1 u.2.2.2.2.2.2.2.2.2.2.2.2.1 u.2.2.2.2.2.2.2.2.2.2.2.2.2.1 u.2.2.2.2.2.2.2.2.2.2.2.2.2.2.1 u.2.2.2.2.2.2.2.2.2.2.2.2.2.2.2.1 u.2.2.2.2.2.2.2.2.2.2.2.2.2.2.2.2.1 u.2.2.2.2.2.2.2.2.2.2.2.2.2.2.2.2.2.1 u.2.2.2.2.2.2.2.2.2.2.2.2.2.2.2.2.2.2) t.heap ∧ va_K D classes [(cI, .int), (cZ, .boolean)] t ∧ va_D A (mW (adM h0 u.1) cI cZ u.2.1 u.2.2.1 u.2.2.2.1 u.2.2.2.2.1 u.2.2.2.2.2.1 u.2.2.2.2.2.2.1 u.2.2.2.2.2.2.2.1 u.2.2.2.2.2.2.2.2.1 u.2.2.2.2.2.2.2.2.2.1 u.2.2.2.2.2.2.2.2.2.2.1 u.2.2.2.2.2.2.2.2.2.2.2.1 u.2.2.2.2.2.2.2.2.2.2.2.2.1 u.2.2.2.2.2.2.2.2.2.2.2.2.2.1 u.2.2.2.2.2.2.2.2.2.2.2.2.2.2.1 u.2.2.2.2.2.2.2.2.2.2.2.2.2.2.2.1 u.2.2.2.2.2.2.2.2.2.2.2.2.2.2.2.2.1 u.2.2.2.2.2.2.2.2.2.2.2.2.2.2.2.2.2.1 u.2.2.2.2.2.2.2.2.2.2.2.2.2.2.2.2.2.2)) A) ([.ref h0, .int x1] : List Value).toArray s 9 122 A) (F0 m 141 ls []) := by
        intro n
        induction n with
        | zero => intro x2_32 m_placeOf_33 H locs ls hw hP hD hS hl; exact hw.elim
        | succ n ih_141 =>
          intro x2_32 m_placeOf_33 H locs ls hw hP hD hS hl
          have hw : p_M_init_L141_B K_141 (p_M_init_L141 K_141 n) x2_32 m_placeOf_33 := hw
          generalize p_M_init_L141 K_141 n = rec_141 at hw ih_141
          refine lv_iload_n hx hb d_M_init_141 rfl (lv_at hl 0 rfl) ?_
          refine lv_bipush (v := (24 : Int32)) hx hb d_M_init_142 (by decide) ?_
          refine lv_icmp_ge (tgt := 160) hx hb d_M_init_144 (by decide) (fun c_34 => ?_) (fun c_34 => ?_)
          · have hw := hw.1 c_34
            rw [hK_141] at hw
            have hl : lv_has ls 3 [(2, .int x2_32), (0, .ref h0), (1, .int x1)] := lv_sub hl [0, 1, 2] rfl
            refine lv_iconst (v := (0 : Int32)) hx hb d_M_init_160 (by decide) ?_
            refine lv_istore_n (lv' := [(2, .int (0 : Int32)), (0, .ref h0), (1, .int x1)]) hx hb d_M_init_161 rfl hl (by decide) rfl (fun ls hl => ?_)
            obtain ⟨K_162, hK_162⟩ : ∃ z : Int32 → (Nat → Int32) → Prop, z = (fun (k_44 : Int32) (k_45 : Nat → Int32) => post (0 : Int32) x1 (0 : Int32) (0 : Int32) (0 : Int32) (0 : Int32) (0 : Int32) (0 : Int32) (0 : Int32) m_placeOf_33 (fun _ => 0) k_45 (fun _ => 0) (fun _ => 0) (fun _ => 0) (fun _ => 0) (fun _ => 0) (fun _ => 0)) := ⟨_, rfl⟩
            have hw : ∃ n, p_M_init_L162 K_162 n (0 : Int32) (fun _ => 0) := by rw [hK_162]; exact hw
            obtain ⟨n_162, hw⟩ := hw
            have key_162 : ∀ (n : Nat) (x2_40 : Int32) (m_on_41 : Nat → Int32) (H : Heap) (locs : List Loc) (ls : Array Slot), p_M_init_L162 K_162 n x2_40 m_on_41 → va_P D classes ([(h0, .inr (2, [.int ((0 : Int32)), .int x1, .int ((0 : Int32)), .ref q_1, .ref q_4, .ref q_7, .ref q_10, .ref q_13, .int ((0 : Int32)), .int ((0 : Int32)), .int ((0 : Int32)), .ref q_16, .int ((0 : Int32)), .ref q_19, .int ((0 : Int32)), .int ((0 : Int32)), .ref q_22, .ref q_25])), (q_1, .inl (cI, 24, .inl m_placeOf_33)), (q_4, .inl (cZ, 24, .inl (fun _ => 0))), (q_7, .inl (cI, 20, .inl m_on_41)), (q_10, .inl (cI, 20, .inl (fun _ => 0))), (q_13, .inl (cZ, 2, .inl (fun _ => 0))), (q_16, .inl (cI, 8, .inl (fun _ => 0))), (q_19, .inl (cI, 8, .inl (fun _ => 0))), (q_22, .inl (cI, 8, .inl (fun _ => 0))), (q_25, .inl (cI, 8, .inl (fun _ => 0)))]) H → va_D A ([(h0, .inr (2, [.int ((0 : Int32)), .int x1, .int ((0 : Int32)), .ref q_1, .ref q_4, .ref q_7, .ref q_10, .ref q_13, .int ((0 : Int32)), .int ((0 : Int32)), .int ((0 : Int32)), .ref q_16, .int ((0 : Int32)), .ref q_19, .int ((0 : Int32)), .int ((0 : Int32)), .ref q_22, .ref q_25])), (q_1, .inl (cI, 24, .inl m_placeOf_33)), (q_4, .inl (cZ, 24, .inl (fun _ => 0))), (q_7, .inl (cI, 20, .inl m_on_41)), (q_10, .inl (cI, 20, .inl (fun _ => 0))), (q_13, .inl (cZ, 2, .inl (fun _ => 0))), (q_16, .inl (cI, 8, .inl (fun _ => 0))), (q_19, .inl (cI, 8, .inl (fun _ => 0))), (q_22, .inl (cI, 8, .inl (fun _ => 0))), (q_25, .inl (cI, 8, .inl (fun _ => 0)))]) → va_S A s.heap H locs → lv_has ls 3 [(2, .int x2_40), (0, .ref h0), (1, .int x1)] → W p l e (headSpec w_M_init rm_M_init).room s m ([.ref h0, .int x1] : List Value).toArray below meth c H locs 9 122 (MQ below (va_Qv (fun (u : List Nat × Int32 × Int32 × Int32 × Int32 × Int32 × Int32 × Int32 × Int32 × Int32 × (Nat → Int32) × (Nat → Int32) × (Nat → Int32) × (Nat → Int32) × (Nat → Int32) × (Nat → Int32) × (Nat → Int32) × (Nat → Int32) × (Nat → Int32)) => post u.2.1 u.2.2.1 u.2.2.2.1 u.2.2.2.2.1 u.2.2.2.2.2.1 u.2.2.2.2.2.2.1 u.2.2.2.2.2.2.2.1 u.2.2.2.2.2.2.2.2.1 u.2.2.2.2.2.2.2.2.2.1 u.2.2.2.2.2.2.2.2.2.2.1 u.2.2.2.2.2.2.2.2.2.2.2.1 u.2.2.2.2.2.2.2.2.2.2.2.2.1 u.2.2.2.2.2.2.2.2.2.2.2.2.2.1 u.2.2.2.2.2.2.2.2.2.2.2.2.2.2.1 u.2.2.2.2.2.2.2.2.2.2.2.2.2.2.2.1 u.2.2.2.2.2.2.2.2.2.2.2.2.2.2.2.2.1 u.2.2.2.2.2.2.2.2.2.2.2.2.2.2.2.2.2.1 u.2.2.2.2.2.2.2.2.2.2.2.2.2.2.2.2.2.2) (fun (u : List Nat × Int32 × Int32 × Int32 × Int32 × Int32 × Int32 × Int32 × Int32 × Int32 × (Nat → Int32) × (Nat → Int32) × (Nat → Int32) × (Nat → Int32) × (Nat → Int32) × (Nat → Int32) × (Nat → Int32) × (Nat → Int32) × (Nat → Int32)) t => va_P D classes (mW (adM h0 u.1) cI cZ u.2.1 u.2.2.1 u.2.2.2.1 u.2.2.2.2.1 u.2.2.2.2.2.1 u.2.2.2.2.2.2.1 u.2.2.2.2.2.2.2.1 u.2.2.2.2.2.2.2.2.1 u.2.2.2.2.2.2.2.2.2.1 u.2.2.2.2.2.2.2.2.2.2.1 u.2.2.2.2.2.2.2.2.2.2.2.1 u.2.2.2.2.2.2.2.2.2.2.2.2.1 u.2.2.2.2.2.2.2.2.2.2.2.2.2.1 u.2.2.2.2.2.2.2.2.2.2.2.2.2.2.1 u.2.2.2.2.2.2.2.2.2.2.2.2.2.2.2.1 u.2.2.2.2.2.2.2.2.2.2.2.2.2.2.2.2.1 u.2.2.2.2.2.2.2.2.2.2.2.2.2.2.2.2.2.1 u.2.2.2.2.2.2.2.2.2.2.2.2.2.2.2.2.2.2) t.heap ∧ va_K D classes [(cI, .int), (cZ, .boolean)] t ∧ va_D A (mW (adM h0 u.1) cI cZ u.2.1 u.2.2.1 u.2.2.2.1 u.2.2.2.2.1 u.2.2.2.2.2.1 u.2.2.2.2.2.2.1 u.2.2.2.2.2.2.2.1 u.2.2.2.2.2.2.2.2.1 u.2.2.2.2.2.2.2.2.2.1 u.2.2.2.2.2.2.2.2.2.2.1 u.2.2.2.2.2.2.2.2.2.2.2.1 u.2.2.2.2.2.2.2.2.2.2.2.2.1 u.2.2.2.2.2.2.2.2.2.2.2.2.2.1 u.2.2.2.2.2.2.2.2.2.2.2.2.2.2.1 u.2.2.2.2.2.2.2.2.2.2.2.2.2.2.2.1 u.2.2.2.2.2.2.2.2.2.2.2.2.2.2.2.2.1 u.2.2.2.2.2.2.2.2.2.2.2.2.2.2.2.2.2.1 u.2.2.2.2.2.2.2.2.2.2.2.2.2.2.2.2.2.2)) A) ([.ref h0, .int x1] : List Value).toArray s 9 122 A) (F0 m 162 ls []) := by
              intro n
              induction n with
              | zero => intro x2_40 m_on_41 H locs ls hw hP hD hS hl; exact hw.elim
              | succ n ih_162 =>
                intro x2_40 m_on_41 H locs ls hw hP hD hS hl
                have hw : p_M_init_L162_B K_162 (p_M_init_L162 K_162 n) x2_40 m_on_41 := hw
                generalize p_M_init_L162 K_162 n = rec_162 at hw ih_162
                refine lv_iload_n hx hb d_M_init_162 rfl (lv_at hl 0 rfl) ?_
                refine lv_bipush (v := (20 : Int32)) hx hb d_M_init_163 (by decide) ?_
                refine lv_icmp_ge (tgt := 181) hx hb d_M_init_165 (by decide) (fun c_42 => ?_) (fun c_42 => ?_)
                · have hw := hw.1 c_42
                  rw [hK_162] at hw
                  have hl : lv_has ls 3 [(2, .int x2_40), (0, .ref h0), (1, .int x1)] := lv_sub hl [0, 1, 2] rfl
                  have hP9 := hP.sub (ws' := mW (adM h0 [q_1, q_4, q_7, q_10, q_13, q_16, q_19, q_22, q_25]) cI cZ (0 : Int32) x1 (0 : Int32) (0 : Int32) (0 : Int32) (0 : Int32) (0 : Int32) (0 : Int32) (0 : Int32) m_placeOf_33 (fun _ => 0) m_on_41 (fun _ => 0) (fun _ => 0) (fun _ => 0) (fun _ => 0) (fun _ => 0) (fun _ => 0)) [0, 1, 2, 3, 4, 5, 6, 7, 8, 9] rfl
                  have hD9 := hD.sub (ws' := mW (adM h0 [q_1, q_4, q_7, q_10, q_13, q_16, q_19, q_22, q_25]) cI cZ (0 : Int32) x1 (0 : Int32) (0 : Int32) (0 : Int32) (0 : Int32) (0 : Int32) (0 : Int32) (0 : Int32) m_placeOf_33 (fun _ => 0) m_on_41 (fun _ => 0) (fun _ => 0) (fun _ => 0) (fun _ => 0) (fun _ => 0) (fun _ => 0)) [0, 1, 2, 3, 4, 5, 6, 7, 8, 9] (by decide) rfl
                  have hK9 : va_K D classes [(cI, .int), (cZ, .boolean)] s := hK.sub [0, 1] rfl
                  exact W.vret hx hb hr (fun t ht hW => ⟨⟨([q_1, q_4, q_7, q_10, q_13, q_16, q_19, q_22, q_25], (0 : Int32), x1, (0 : Int32), (0 : Int32), (0 : Int32), (0 : Int32), (0 : Int32), (0 : Int32), (0 : Int32), m_placeOf_33, (fun _ => 0), m_on_41, (fun _ => 0), (fun _ => 0), (fun _ => 0), (fun _ => 0), (fun _ => 0), (fun _ => 0)), rfl, hw, by rw [ht]; exact hP9, va_K.moved hW.alike hK9, hD9⟩, hS.F ht⟩) hS.2.2 d_M_init_181
                · have hw := hw.2 c_42
                  refine lv_aload_n hx hb d_M_init_168 rfl (lv_at hl 1 rfl) ?_
                  refine va_get (D := D) (ci := 2) (v := .ref q_7) (C := R_M) (T := F_M) (N := 18) hx hb hts (iK iW_M) hown hK hP 0 rfl rfl 5 (by decide) (hts _ (kM kw_7ca6b28c)) (fun _ h9 => h9) rfl d_M_init_169 ?_
                  refine lv_iload_n hx hb d_M_init_172 rfl (lv_at hl 0 rfl) ?_
                  refine lv_iconst (v := (-1 : Int32)) hx hb d_M_init_173 (by decide) ?_
                  obtain ⟨h_43, hw⟩ := hw
                  refine va_iast hx hb hK hP hD hS 3 0 rfl rfl h_43 d_M_init_174 (fun H locs hP hD hS => ?_)
                  have hP : va_P D classes ([(h0, .inr (2, [.int ((0 : Int32)), .int x1, .int ((0 : Int32)), .ref q_1, .ref q_4, .ref q_7, .ref q_10, .ref q_13, .int ((0 : Int32)), .int ((0 : Int32)), .int ((0 : Int32)), .ref q_16, .int ((0 : Int32)), .ref q_19, .int ((0 : Int32)), .int ((0 : Int32)), .ref q_22, .ref q_25])), (q_1, .inl (cI, 24, .inl m_placeOf_33)), (q_4, .inl (cZ, 24, .inl (fun _ => 0))), (q_7, .inl (cI, 20, .inl (upd m_on_41 (x2_40).toNatClampNeg (-1 : Int32)))), (q_10, .inl (cI, 20, .inl (fun _ => 0))), (q_13, .inl (cZ, 2, .inl (fun _ => 0))), (q_16, .inl (cI, 8, .inl (fun _ => 0))), (q_19, .inl (cI, 8, .inl (fun _ => 0))), (q_22, .inl (cI, 8, .inl (fun _ => 0))), (q_25, .inl (cI, 8, .inl (fun _ => 0)))]) H := hP
                  have hD : va_D A ([(h0, .inr (2, [.int ((0 : Int32)), .int x1, .int ((0 : Int32)), .ref q_1, .ref q_4, .ref q_7, .ref q_10, .ref q_13, .int ((0 : Int32)), .int ((0 : Int32)), .int ((0 : Int32)), .ref q_16, .int ((0 : Int32)), .ref q_19, .int ((0 : Int32)), .int ((0 : Int32)), .ref q_22, .ref q_25])), (q_1, .inl (cI, 24, .inl m_placeOf_33)), (q_4, .inl (cZ, 24, .inl (fun _ => 0))), (q_7, .inl (cI, 20, .inl (upd m_on_41 (x2_40).toNatClampNeg (-1 : Int32)))), (q_10, .inl (cI, 20, .inl (fun _ => 0))), (q_13, .inl (cZ, 2, .inl (fun _ => 0))), (q_16, .inl (cI, 8, .inl (fun _ => 0))), (q_19, .inl (cI, 8, .inl (fun _ => 0))), (q_22, .inl (cI, 8, .inl (fun _ => 0))), (q_25, .inl (cI, 8, .inl (fun _ => 0)))]) := hD
                  refine lv_iinc (v := (x2_40 + 1)) (lv' := [(2, .int (x2_40 + 1)), (0, .ref h0), (1, .int x1)]) hx hb d_M_init_175 hl (k := 0) rfl rfl (by decide) rfl (fun ls hl => ?_)
                  refine lv_goto (tgt := 162) hx hb d_M_init_178 (by decide) ?_
                  exact ih_162 (x2_40 + 1) (upd m_on_41 (x2_40).toNatClampNeg (-1 : Int32)) _ _ _ hw hP hD hS (lv_sub hl [0, 1, 2] rfl)
            exact key_162 n_162 (0 : Int32) (fun _ => 0) _ _ _ hw hP hD hS (lv_sub hl [0, 1, 2] rfl)
          · have hw := hw.2 c_34
            refine lv_aload_n hx hb d_M_init_147 rfl (lv_at hl 1 rfl) ?_
            refine va_get (D := D) (ci := 2) (v := .ref q_1) (C := R_M) (T := F_M) (N := 18) hx hb hts (iK iW_M) hown hK hP 0 rfl rfl 3 (by decide) (hts _ (kM kw_1dda6185)) (fun _ h9 => h9) rfl d_M_init_148 ?_
            refine lv_iload_n hx hb d_M_init_151 rfl (lv_at hl 0 rfl) ?_
            refine lv_iload_n hx hb d_M_init_152 rfl (lv_at hl 0 rfl) ?_
            obtain ⟨h_35, hw⟩ := hw
            refine va_iast hx hb hK hP hD hS 1 0 rfl rfl h_35 d_M_init_153 (fun H locs hP hD hS => ?_)
            have hP : va_P D classes ([(h0, .inr (2, [.int ((0 : Int32)), .int x1, .int ((0 : Int32)), .ref q_1, .ref q_4, .ref q_7, .ref q_10, .ref q_13, .int ((0 : Int32)), .int ((0 : Int32)), .int ((0 : Int32)), .ref q_16, .int ((0 : Int32)), .ref q_19, .int ((0 : Int32)), .int ((0 : Int32)), .ref q_22, .ref q_25])), (q_1, .inl (cI, 24, .inl (upd m_placeOf_33 (x2_32).toNatClampNeg x2_32))), (q_4, .inl (cZ, 24, .inl (fun _ => 0))), (q_7, .inl (cI, 20, .inl (fun _ => 0))), (q_10, .inl (cI, 20, .inl (fun _ => 0))), (q_13, .inl (cZ, 2, .inl (fun _ => 0))), (q_16, .inl (cI, 8, .inl (fun _ => 0))), (q_19, .inl (cI, 8, .inl (fun _ => 0))), (q_22, .inl (cI, 8, .inl (fun _ => 0))), (q_25, .inl (cI, 8, .inl (fun _ => 0)))]) H := hP
            have hD : va_D A ([(h0, .inr (2, [.int ((0 : Int32)), .int x1, .int ((0 : Int32)), .ref q_1, .ref q_4, .ref q_7, .ref q_10, .ref q_13, .int ((0 : Int32)), .int ((0 : Int32)), .int ((0 : Int32)), .ref q_16, .int ((0 : Int32)), .ref q_19, .int ((0 : Int32)), .int ((0 : Int32)), .ref q_22, .ref q_25])), (q_1, .inl (cI, 24, .inl (upd m_placeOf_33 (x2_32).toNatClampNeg x2_32))), (q_4, .inl (cZ, 24, .inl (fun _ => 0))), (q_7, .inl (cI, 20, .inl (fun _ => 0))), (q_10, .inl (cI, 20, .inl (fun _ => 0))), (q_13, .inl (cZ, 2, .inl (fun _ => 0))), (q_16, .inl (cI, 8, .inl (fun _ => 0))), (q_19, .inl (cI, 8, .inl (fun _ => 0))), (q_22, .inl (cI, 8, .inl (fun _ => 0))), (q_25, .inl (cI, 8, .inl (fun _ => 0)))]) := hD
            refine lv_iinc (v := (x2_32 + 1)) (lv' := [(2, .int (x2_32 + 1)), (0, .ref h0), (1, .int x1)]) hx hb d_M_init_154 hl (k := 0) rfl rfl (by decide) rfl (fun ls hl => ?_)
            refine lv_goto (tgt := 141) hx hb d_M_init_157 (by decide) ?_
            exact ih_141 (x2_32 + 1) (upd m_placeOf_33 (x2_32).toNatClampNeg x2_32) _ _ _ hw hP hD hS (lv_sub hl [0, 1, 2] rfl)
      exact key_141 n_141 (0 : Int32) (fun _ => 0) _ _ _ hw hP hD hS (lv_sub hl [0, 1, 2] rfl)
    · have hw := hw.2 c_29
      refine lv_bipush (v := (24 : Int32)) hx hb d_M_init_130 (by decide) ?_
      refine lv_goto (tgt := 136) hx hb d_M_init_132 (by decide) ?_
      refine va_putF (D := D) (ci := 2) (v := .int (24 : Int32)) (ty := .int) (C := R_M) (T := F_M) (N := 18) hx hb hts (iK iW_M) t_M t_M_ok n_M hown hK hP hD hS 0 rfl rfl 1 (by decide) (hts _ (kM kw_7139d127)) (fun _ h9 => h9) rfl hin rfl (by decide +kernel) rfl rfl (Nat.le_of_ble_eq_true rfl) d_M_init_136 (fun H locs hP hD hS => ?_)
      have hP : va_P D classes ([(h0, .inr (2, [.int (0 : Int32), .int (24 : Int32), .int (0 : Int32), .ref q_1, .ref q_4, .ref q_7, .ref q_10, .ref q_13, .int (0 : Int32), .int (0 : Int32), .int (0 : Int32), .ref q_16, .int (0 : Int32), .ref q_19, .int (0 : Int32), .int (0 : Int32), .ref q_22, .ref q_25])), (q_1, .inl (cI, 24, .inl (fun _ => 0))), (q_4, .inl (cZ, 24, .inl (fun _ => 0))), (q_7, .inl (cI, 20, .inl (fun _ => 0))), (q_10, .inl (cI, 20, .inl (fun _ => 0))), (q_13, .inl (cZ, 2, .inl (fun _ => 0))), (q_16, .inl (cI, 8, .inl (fun _ => 0))), (q_19, .inl (cI, 8, .inl (fun _ => 0))), (q_22, .inl (cI, 8, .inl (fun _ => 0))), (q_25, .inl (cI, 8, .inl (fun _ => 0)))]) H := hP
      have hD : va_D A ([(h0, .inr (2, [.int (0 : Int32), .int (24 : Int32), .int (0 : Int32), .ref q_1, .ref q_4, .ref q_7, .ref q_10, .ref q_13, .int (0 : Int32), .int (0 : Int32), .int (0 : Int32), .ref q_16, .int (0 : Int32), .ref q_19, .int (0 : Int32), .int (0 : Int32), .ref q_22, .ref q_25])), (q_1, .inl (cI, 24, .inl (fun _ => 0))), (q_4, .inl (cZ, 24, .inl (fun _ => 0))), (q_7, .inl (cI, 20, .inl (fun _ => 0))), (q_10, .inl (cI, 20, .inl (fun _ => 0))), (q_13, .inl (cZ, 2, .inl (fun _ => 0))), (q_16, .inl (cI, 8, .inl (fun _ => 0))), (q_19, .inl (cI, 8, .inl (fun _ => 0))), (q_22, .inl (cI, 8, .inl (fun _ => 0))), (q_25, .inl (cI, 8, .inl (fun _ => 0)))]) := hD
      refine lv_iconst (v := (0 : Int32)) hx hb d_M_init_139 (by decide) ?_
      refine lv_istore_n (lv' := [(2, .int (0 : Int32)), (0, .ref h0), (1, .int x1)]) hx hb d_M_init_140 rfl hl (by decide) rfl (fun ls hl => ?_)
      obtain ⟨K_141, hK_141⟩ : ∃ z : Int32 → (Nat → Int32) → Prop, z = (fun (k_50 : Int32) (k_51 : Nat → Int32) => (∃ n, p_M_init_L162 (fun (k_56 : Int32) (k_57 : Nat → Int32) => post (0 : Int32) (24 : Int32) (0 : Int32) (0 : Int32) (0 : Int32) (0 : Int32) (0 : Int32) (0 : Int32) (0 : Int32) k_51 (fun _ => 0) k_57 (fun _ => 0) (fun _ => 0) (fun _ => 0) (fun _ => 0) (fun _ => 0) (fun _ => 0)) n (0 : Int32) (fun _ => 0))) := ⟨_, rfl⟩
      have hw : ∃ n, p_M_init_L141 K_141 n (0 : Int32) (fun _ => 0) := by rw [hK_141]; exact hw
      obtain ⟨n_141, hw⟩ := hw
      have key_141 : ∀ (n : Nat) (x2_46 : Int32) (m_placeOf_47 : Nat → Int32) (H : Heap) (locs : List Loc) (ls : Array Slot), p_M_init_L141 K_141 n x2_46 m_placeOf_47 → va_P D classes ([(h0, .inr (2, [.int ((0 : Int32)), .int ((24 : Int32)), .int ((0 : Int32)), .ref q_1, .ref q_4, .ref q_7, .ref q_10, .ref q_13, .int ((0 : Int32)), .int ((0 : Int32)), .int ((0 : Int32)), .ref q_16, .int ((0 : Int32)), .ref q_19, .int ((0 : Int32)), .int ((0 : Int32)), .ref q_22, .ref q_25])), (q_1, .inl (cI, 24, .inl m_placeOf_47)), (q_4, .inl (cZ, 24, .inl (fun _ => 0))), (q_7, .inl (cI, 20, .inl (fun _ => 0))), (q_10, .inl (cI, 20, .inl (fun _ => 0))), (q_13, .inl (cZ, 2, .inl (fun _ => 0))), (q_16, .inl (cI, 8, .inl (fun _ => 0))), (q_19, .inl (cI, 8, .inl (fun _ => 0))), (q_22, .inl (cI, 8, .inl (fun _ => 0))), (q_25, .inl (cI, 8, .inl (fun _ => 0)))]) H → va_D A ([(h0, .inr (2, [.int ((0 : Int32)), .int ((24 : Int32)), .int ((0 : Int32)), .ref q_1, .ref q_4, .ref q_7, .ref q_10, .ref q_13, .int ((0 : Int32)), .int ((0 : Int32)), .int ((0 : Int32)), .ref q_16, .int ((0 : Int32)), .ref q_19, .int ((0 : Int32)), .int ((0 : Int32)), .ref q_22, .ref q_25])), (q_1, .inl (cI, 24, .inl m_placeOf_47)), (q_4, .inl (cZ, 24, .inl (fun _ => 0))), (q_7, .inl (cI, 20, .inl (fun _ => 0))), (q_10, .inl (cI, 20, .inl (fun _ => 0))), (q_13, .inl (cZ, 2, .inl (fun _ => 0))), (q_16, .inl (cI, 8, .inl (fun _ => 0))), (q_19, .inl (cI, 8, .inl (fun _ => 0))), (q_22, .inl (cI, 8, .inl (fun _ => 0))), (q_25, .inl (cI, 8, .inl (fun _ => 0)))]) → va_S A s.heap H locs → lv_has ls 3 [(2, .int x2_46), (0, .ref h0), (1, .int x1)] → W p l e (headSpec w_M_init rm_M_init).room s m ([.ref h0, .int x1] : List Value).toArray below meth c H locs 9 122 (MQ below (va_Qv (fun (u : List Nat × Int32 × Int32 × Int32 × Int32 × Int32 × Int32 × Int32 × Int32 × Int32 × (Nat → Int32) × (Nat → Int32) × (Nat → Int32) × (Nat → Int32) × (Nat → Int32) × (Nat → Int32) × (Nat → Int32) × (Nat → Int32) × (Nat → Int32)) => post u.2.1 u.2.2.1 u.2.2.2.1 u.2.2.2.2.1 u.2.2.2.2.2.1 u.2.2.2.2.2.2.1 u.2.2.2.2.2.2.2.1 u.2.2.2.2.2.2.2.2.1 u.2.2.2.2.2.2.2.2.2.1 u.2.2.2.2.2.2.2.2.2.2.1 u.2.2.2.2.2.2.2.2.2.2.2.1 u.2.2.2.2.2.2.2.2.2.2.2.2.1 u.2.2.2.2.2.2.2.2.2.2.2.2.2.1 u.2.2.2.2.2.2.2.2.2.2.2.2.2.2.1 u.2.2.2.2.2.2.2.2.2.2.2.2.2.2.2.1 u.2.2.2.2.2.2.2.2.2.2.2.2.2.2.2.2.1 u.2.2.2.2.2.2.2.2.2.2.2.2.2.2.2.2.2.1 u.2.2.2.2.2.2.2.2.2.2.2.2.2.2.2.2.2.2) (fun (u : List Nat × Int32 × Int32 × Int32 × Int32 × Int32 × Int32 × Int32 × Int32 × Int32 × (Nat → Int32) × (Nat → Int32) × (Nat → Int32) × (Nat → Int32) × (Nat → Int32) × (Nat → Int32) × (Nat → Int32) × (Nat → Int32) × (Nat → Int32)) t => va_P D classes (mW (adM h0 u.1) cI cZ u.2.1 u.2.2.1 u.2.2.2.1 u.2.2.2.2.1 u.2.2.2.2.2.1 u.2.2.2.2.2.2.1 u.2.2.2.2.2.2.2.1 u.2.2.2.2.2.2.2.2.1 u.2.2.2.2.2.2.2.2.2.1 u.2.2.2.2.2.2.2.2.2.2.1 u.2.2.2.2.2.2.2.2.2.2.2.1 u.2.2.2.2.2.2.2.2.2.2.2.2.1 u.2.2.2.2.2.2.2.2.2.2.2.2.2.1 u.2.2.2.2.2.2.2.2.2.2.2.2.2.2.1 u.2.2.2.2.2.2.2.2.2.2.2.2.2.2.2.1 u.2.2.2.2.2.2.2.2.2.2.2.2.2.2.2.2.1 u.2.2.2.2.2.2.2.2.2.2.2.2.2.2.2.2.2.1 u.2.2.2.2.2.2.2.2.2.2.2.2.2.2.2.2.2.2) t.heap ∧ va_K D classes [(cI, .int), (cZ, .boolean)] t ∧ va_D A (mW (adM h0 u.1) cI cZ u.2.1 u.2.2.1 u.2.2.2.1 u.2.2.2.2.1 u.2.2.2.2.2.1 u.2.2.2.2.2.2.1 u.2.2.2.2.2.2.2.1 u.2.2.2.2.2.2.2.2.1 u.2.2.2.2.2.2.2.2.2.1 u.2.2.2.2.2.2.2.2.2.2.1 u.2.2.2.2.2.2.2.2.2.2.2.1 u.2.2.2.2.2.2.2.2.2.2.2.2.1 u.2.2.2.2.2.2.2.2.2.2.2.2.2.1 u.2.2.2.2.2.2.2.2.2.2.2.2.2.2.1 u.2.2.2.2.2.2.2.2.2.2.2.2.2.2.2.1 u.2.2.2.2.2.2.2.2.2.2.2.2.2.2.2.2.1 u.2.2.2.2.2.2.2.2.2.2.2.2.2.2.2.2.2.1 u.2.2.2.2.2.2.2.2.2.2.2.2.2.2.2.2.2.2)) A) ([.ref h0, .int x1] : List Value).toArray s 9 122 A) (F0 m 141 ls []) := by
        intro n
        induction n with
        | zero => intro x2_46 m_placeOf_47 H locs ls hw hP hD hS hl; exact hw.elim
        | succ n ih_141 =>
          intro x2_46 m_placeOf_47 H locs ls hw hP hD hS hl
          have hw : p_M_init_L141_B K_141 (p_M_init_L141 K_141 n) x2_46 m_placeOf_47 := hw
          generalize p_M_init_L141 K_141 n = rec_141 at hw ih_141
          refine lv_iload_n hx hb d_M_init_141 rfl (lv_at hl 0 rfl) ?_
          refine lv_bipush (v := (24 : Int32)) hx hb d_M_init_142 (by decide) ?_
          refine lv_icmp_ge (tgt := 160) hx hb d_M_init_144 (by decide) (fun c_48 => ?_) (fun c_48 => ?_)
          · have hw := hw.1 c_48
            rw [hK_141] at hw
            have hl : lv_has ls 3 [(2, .int x2_46), (0, .ref h0), (1, .int x1)] := lv_sub hl [0, 1, 2] rfl
            refine lv_iconst (v := (0 : Int32)) hx hb d_M_init_160 (by decide) ?_
            refine lv_istore_n (lv' := [(2, .int (0 : Int32)), (0, .ref h0), (1, .int x1)]) hx hb d_M_init_161 rfl hl (by decide) rfl (fun ls hl => ?_)
            obtain ⟨K_162, hK_162⟩ : ∃ z : Int32 → (Nat → Int32) → Prop, z = (fun (k_56 : Int32) (k_57 : Nat → Int32) => post (0 : Int32) (24 : Int32) (0 : Int32) (0 : Int32) (0 : Int32) (0 : Int32) (0 : Int32) (0 : Int32) (0 : Int32) m_placeOf_47 (fun _ => 0) k_57 (fun _ => 0) (fun _ => 0) (fun _ => 0) (fun _ => 0) (fun _ => 0) (fun _ => 0)) := ⟨_, rfl⟩
            have hw : ∃ n, p_M_init_L162 K_162 n (0 : Int32) (fun _ => 0) := by rw [hK_162]; exact hw
            obtain ⟨n_162, hw⟩ := hw
            have key_162 : ∀ (n : Nat) (x2_52 : Int32) (m_on_53 : Nat → Int32) (H : Heap) (locs : List Loc) (ls : Array Slot), p_M_init_L162 K_162 n x2_52 m_on_53 → va_P D classes ([(h0, .inr (2, [.int ((0 : Int32)), .int ((24 : Int32)), .int ((0 : Int32)), .ref q_1, .ref q_4, .ref q_7, .ref q_10, .ref q_13, .int ((0 : Int32)), .int ((0 : Int32)), .int ((0 : Int32)), .ref q_16, .int ((0 : Int32)), .ref q_19, .int ((0 : Int32)), .int ((0 : Int32)), .ref q_22, .ref q_25])), (q_1, .inl (cI, 24, .inl m_placeOf_47)), (q_4, .inl (cZ, 24, .inl (fun _ => 0))), (q_7, .inl (cI, 20, .inl m_on_53)), (q_10, .inl (cI, 20, .inl (fun _ => 0))), (q_13, .inl (cZ, 2, .inl (fun _ => 0))), (q_16, .inl (cI, 8, .inl (fun _ => 0))), (q_19, .inl (cI, 8, .inl (fun _ => 0))), (q_22, .inl (cI, 8, .inl (fun _ => 0))), (q_25, .inl (cI, 8, .inl (fun _ => 0)))]) H → va_D A ([(h0, .inr (2, [.int ((0 : Int32)), .int ((24 : Int32)), .int ((0 : Int32)), .ref q_1, .ref q_4, .ref q_7, .ref q_10, .ref q_13, .int ((0 : Int32)), .int ((0 : Int32)), .int ((0 : Int32)), .ref q_16, .int ((0 : Int32)), .ref q_19, .int ((0 : Int32)), .int ((0 : Int32)), .ref q_22, .ref q_25])), (q_1, .inl (cI, 24, .inl m_placeOf_47)), (q_4, .inl (cZ, 24, .inl (fun _ => 0))), (q_7, .inl (cI, 20, .inl m_on_53)), (q_10, .inl (cI, 20, .inl (fun _ => 0))), (q_13, .inl (cZ, 2, .inl (fun _ => 0))), (q_16, .inl (cI, 8, .inl (fun _ => 0))), (q_19, .inl (cI, 8, .inl (fun _ => 0))), (q_22, .inl (cI, 8, .inl (fun _ => 0))), (q_25, .inl (cI, 8, .inl (fun _ => 0)))]) → va_S A s.heap H locs → lv_has ls 3 [(2, .int x2_52), (0, .ref h0), (1, .int x1)] → W p l e (headSpec w_M_init rm_M_init).room s m ([.ref h0, .int x1] : List Value).toArray below meth c H locs 9 122 (MQ below (va_Qv (fun (u : List Nat × Int32 × Int32 × Int32 × Int32 × Int32 × Int32 × Int32 × Int32 × Int32 × (Nat → Int32) × (Nat → Int32) × (Nat → Int32) × (Nat → Int32) × (Nat → Int32) × (Nat → Int32) × (Nat → Int32) × (Nat → Int32) × (Nat → Int32)) => post u.2.1 u.2.2.1 u.2.2.2.1 u.2.2.2.2.1 u.2.2.2.2.2.1 u.2.2.2.2.2.2.1 u.2.2.2.2.2.2.2.1 u.2.2.2.2.2.2.2.2.1 u.2.2.2.2.2.2.2.2.2.1 u.2.2.2.2.2.2.2.2.2.2.1 u.2.2.2.2.2.2.2.2.2.2.2.1 u.2.2.2.2.2.2.2.2.2.2.2.2.1 u.2.2.2.2.2.2.2.2.2.2.2.2.2.1 u.2.2.2.2.2.2.2.2.2.2.2.2.2.2.1 u.2.2.2.2.2.2.2.2.2.2.2.2.2.2.2.1 u.2.2.2.2.2.2.2.2.2.2.2.2.2.2.2.2.1 u.2.2.2.2.2.2.2.2.2.2.2.2.2.2.2.2.2.1 u.2.2.2.2.2.2.2.2.2.2.2.2.2.2.2.2.2.2) (fun (u : List Nat × Int32 × Int32 × Int32 × Int32 × Int32 × Int32 × Int32 × Int32 × Int32 × (Nat → Int32) × (Nat → Int32) × (Nat → Int32) × (Nat → Int32) × (Nat → Int32) × (Nat → Int32) × (Nat → Int32) × (Nat → Int32) × (Nat → Int32)) t => va_P D classes (mW (adM h0 u.1) cI cZ u.2.1 u.2.2.1 u.2.2.2.1 u.2.2.2.2.1 u.2.2.2.2.2.1 u.2.2.2.2.2.2.1 u.2.2.2.2.2.2.2.1 u.2.2.2.2.2.2.2.2.1 u.2.2.2.2.2.2.2.2.2.1 u.2.2.2.2.2.2.2.2.2.2.1 u.2.2.2.2.2.2.2.2.2.2.2.1 u.2.2.2.2.2.2.2.2.2.2.2.2.1 u.2.2.2.2.2.2.2.2.2.2.2.2.2.1 u.2.2.2.2.2.2.2.2.2.2.2.2.2.2.1 u.2.2.2.2.2.2.2.2.2.2.2.2.2.2.2.1 u.2.2.2.2.2.2.2.2.2.2.2.2.2.2.2.2.1 u.2.2.2.2.2.2.2.2.2.2.2.2.2.2.2.2.2.1 u.2.2.2.2.2.2.2.2.2.2.2.2.2.2.2.2.2.2) t.heap ∧ va_K D classes [(cI, .int), (cZ, .boolean)] t ∧ va_D A (mW (adM h0 u.1) cI cZ u.2.1 u.2.2.1 u.2.2.2.1 u.2.2.2.2.1 u.2.2.2.2.2.1 u.2.2.2.2.2.2.1 u.2.2.2.2.2.2.2.1 u.2.2.2.2.2.2.2.2.1 u.2.2.2.2.2.2.2.2.2.1 u.2.2.2.2.2.2.2.2.2.2.1 u.2.2.2.2.2.2.2.2.2.2.2.1 u.2.2.2.2.2.2.2.2.2.2.2.2.1 u.2.2.2.2.2.2.2.2.2.2.2.2.2.1 u.2.2.2.2.2.2.2.2.2.2.2.2.2.2.1 u.2.2.2.2.2.2.2.2.2.2.2.2.2.2.2.1 u.2.2.2.2.2.2.2.2.2.2.2.2.2.2.2.2.1 u.2.2.2.2.2.2.2.2.2.2.2.2.2.2.2.2.2.1 u.2.2.2.2.2.2.2.2.2.2.2.2.2.2.2.2.2.2)) A) ([.ref h0, .int x1] : List Value).toArray s 9 122 A) (F0 m 162 ls []) := by
              intro n
              induction n with
              | zero => intro x2_52 m_on_53 H locs ls hw hP hD hS hl; exact hw.elim
              | succ n ih_162 =>
                intro x2_52 m_on_53 H locs ls hw hP hD hS hl
                have hw : p_M_init_L162_B K_162 (p_M_init_L162 K_162 n) x2_52 m_on_53 := hw
                generalize p_M_init_L162 K_162 n = rec_162 at hw ih_162
                refine lv_iload_n hx hb d_M_init_162 rfl (lv_at hl 0 rfl) ?_
                refine lv_bipush (v := (20 : Int32)) hx hb d_M_init_163 (by decide) ?_
                refine lv_icmp_ge (tgt := 181) hx hb d_M_init_165 (by decide) (fun c_54 => ?_) (fun c_54 => ?_)
                · have hw := hw.1 c_54
                  rw [hK_162] at hw
                  have hl : lv_has ls 3 [(2, .int x2_52), (0, .ref h0), (1, .int x1)] := lv_sub hl [0, 1, 2] rfl
                  have hP9 := hP.sub (ws' := mW (adM h0 [q_1, q_4, q_7, q_10, q_13, q_16, q_19, q_22, q_25]) cI cZ (0 : Int32) (24 : Int32) (0 : Int32) (0 : Int32) (0 : Int32) (0 : Int32) (0 : Int32) (0 : Int32) (0 : Int32) m_placeOf_47 (fun _ => 0) m_on_53 (fun _ => 0) (fun _ => 0) (fun _ => 0) (fun _ => 0) (fun _ => 0) (fun _ => 0)) [0, 1, 2, 3, 4, 5, 6, 7, 8, 9] rfl
                  have hD9 := hD.sub (ws' := mW (adM h0 [q_1, q_4, q_7, q_10, q_13, q_16, q_19, q_22, q_25]) cI cZ (0 : Int32) (24 : Int32) (0 : Int32) (0 : Int32) (0 : Int32) (0 : Int32) (0 : Int32) (0 : Int32) (0 : Int32) m_placeOf_47 (fun _ => 0) m_on_53 (fun _ => 0) (fun _ => 0) (fun _ => 0) (fun _ => 0) (fun _ => 0) (fun _ => 0)) [0, 1, 2, 3, 4, 5, 6, 7, 8, 9] (by decide) rfl
                  have hK9 : va_K D classes [(cI, .int), (cZ, .boolean)] s := hK.sub [0, 1] rfl
                  exact W.vret hx hb hr (fun t ht hW => ⟨⟨([q_1, q_4, q_7, q_10, q_13, q_16, q_19, q_22, q_25], (0 : Int32), (24 : Int32), (0 : Int32), (0 : Int32), (0 : Int32), (0 : Int32), (0 : Int32), (0 : Int32), (0 : Int32), m_placeOf_47, (fun _ => 0), m_on_53, (fun _ => 0), (fun _ => 0), (fun _ => 0), (fun _ => 0), (fun _ => 0), (fun _ => 0)), rfl, hw, by rw [ht]; exact hP9, va_K.moved hW.alike hK9, hD9⟩, hS.F ht⟩) hS.2.2 d_M_init_181
                · have hw := hw.2 c_54
                  refine lv_aload_n hx hb d_M_init_168 rfl (lv_at hl 1 rfl) ?_
                  refine va_get (D := D) (ci := 2) (v := .ref q_7) (C := R_M) (T := F_M) (N := 18) hx hb hts (iK iW_M) hown hK hP 0 rfl rfl 5 (by decide) (hts _ (kM kw_7ca6b28c)) (fun _ h9 => h9) rfl d_M_init_169 ?_
                  refine lv_iload_n hx hb d_M_init_172 rfl (lv_at hl 0 rfl) ?_
                  refine lv_iconst (v := (-1 : Int32)) hx hb d_M_init_173 (by decide) ?_
                  obtain ⟨h_55, hw⟩ := hw
                  refine va_iast hx hb hK hP hD hS 3 0 rfl rfl h_55 d_M_init_174 (fun H locs hP hD hS => ?_)
                  have hP : va_P D classes ([(h0, .inr (2, [.int ((0 : Int32)), .int ((24 : Int32)), .int ((0 : Int32)), .ref q_1, .ref q_4, .ref q_7, .ref q_10, .ref q_13, .int ((0 : Int32)), .int ((0 : Int32)), .int ((0 : Int32)), .ref q_16, .int ((0 : Int32)), .ref q_19, .int ((0 : Int32)), .int ((0 : Int32)), .ref q_22, .ref q_25])), (q_1, .inl (cI, 24, .inl m_placeOf_47)), (q_4, .inl (cZ, 24, .inl (fun _ => 0))), (q_7, .inl (cI, 20, .inl (upd m_on_53 (x2_52).toNatClampNeg (-1 : Int32)))), (q_10, .inl (cI, 20, .inl (fun _ => 0))), (q_13, .inl (cZ, 2, .inl (fun _ => 0))), (q_16, .inl (cI, 8, .inl (fun _ => 0))), (q_19, .inl (cI, 8, .inl (fun _ => 0))), (q_22, .inl (cI, 8, .inl (fun _ => 0))), (q_25, .inl (cI, 8, .inl (fun _ => 0)))]) H := hP
                  have hD : va_D A ([(h0, .inr (2, [.int ((0 : Int32)), .int ((24 : Int32)), .int ((0 : Int32)), .ref q_1, .ref q_4, .ref q_7, .ref q_10, .ref q_13, .int ((0 : Int32)), .int ((0 : Int32)), .int ((0 : Int32)), .ref q_16, .int ((0 : Int32)), .ref q_19, .int ((0 : Int32)), .int ((0 : Int32)), .ref q_22, .ref q_25])), (q_1, .inl (cI, 24, .inl m_placeOf_47)), (q_4, .inl (cZ, 24, .inl (fun _ => 0))), (q_7, .inl (cI, 20, .inl (upd m_on_53 (x2_52).toNatClampNeg (-1 : Int32)))), (q_10, .inl (cI, 20, .inl (fun _ => 0))), (q_13, .inl (cZ, 2, .inl (fun _ => 0))), (q_16, .inl (cI, 8, .inl (fun _ => 0))), (q_19, .inl (cI, 8, .inl (fun _ => 0))), (q_22, .inl (cI, 8, .inl (fun _ => 0))), (q_25, .inl (cI, 8, .inl (fun _ => 0)))]) := hD
                  refine lv_iinc (v := (x2_52 + 1)) (lv' := [(2, .int (x2_52 + 1)), (0, .ref h0), (1, .int x1)]) hx hb d_M_init_175 hl (k := 0) rfl rfl (by decide) rfl (fun ls hl => ?_)
                  refine lv_goto (tgt := 162) hx hb d_M_init_178 (by decide) ?_
                  exact ih_162 (x2_52 + 1) (upd m_on_53 (x2_52).toNatClampNeg (-1 : Int32)) _ _ _ hw hP hD hS (lv_sub hl [0, 1, 2] rfl)
            exact key_162 n_162 (0 : Int32) (fun _ => 0) _ _ _ hw hP hD hS (lv_sub hl [0, 1, 2] rfl)
          · have hw := hw.2 c_48
            refine lv_aload_n hx hb d_M_init_147 rfl (lv_at hl 1 rfl) ?_
            refine va_get (D := D) (ci := 2) (v := .ref q_1) (C := R_M) (T := F_M) (N := 18) hx hb hts (iK iW_M) hown hK hP 0 rfl rfl 3 (by decide) (hts _ (kM kw_1dda6185)) (fun _ h9 => h9) rfl d_M_init_148 ?_
            refine lv_iload_n hx hb d_M_init_151 rfl (lv_at hl 0 rfl) ?_
            refine lv_iload_n hx hb d_M_init_152 rfl (lv_at hl 0 rfl) ?_
            obtain ⟨h_49, hw⟩ := hw
            refine va_iast hx hb hK hP hD hS 1 0 rfl rfl h_49 d_M_init_153 (fun H locs hP hD hS => ?_)
            have hP : va_P D classes ([(h0, .inr (2, [.int ((0 : Int32)), .int ((24 : Int32)), .int ((0 : Int32)), .ref q_1, .ref q_4, .ref q_7, .ref q_10, .ref q_13, .int ((0 : Int32)), .int ((0 : Int32)), .int ((0 : Int32)), .ref q_16, .int ((0 : Int32)), .ref q_19, .int ((0 : Int32)), .int ((0 : Int32)), .ref q_22, .ref q_25])), (q_1, .inl (cI, 24, .inl (upd m_placeOf_47 (x2_46).toNatClampNeg x2_46))), (q_4, .inl (cZ, 24, .inl (fun _ => 0))), (q_7, .inl (cI, 20, .inl (fun _ => 0))), (q_10, .inl (cI, 20, .inl (fun _ => 0))), (q_13, .inl (cZ, 2, .inl (fun _ => 0))), (q_16, .inl (cI, 8, .inl (fun _ => 0))), (q_19, .inl (cI, 8, .inl (fun _ => 0))), (q_22, .inl (cI, 8, .inl (fun _ => 0))), (q_25, .inl (cI, 8, .inl (fun _ => 0)))]) H := hP
            have hD : va_D A ([(h0, .inr (2, [.int ((0 : Int32)), .int ((24 : Int32)), .int ((0 : Int32)), .ref q_1, .ref q_4, .ref q_7, .ref q_10, .ref q_13, .int ((0 : Int32)), .int ((0 : Int32)), .int ((0 : Int32)), .ref q_16, .int ((0 : Int32)), .ref q_19, .int ((0 : Int32)), .int ((0 : Int32)), .ref q_22, .ref q_25])), (q_1, .inl (cI, 24, .inl (upd m_placeOf_47 (x2_46).toNatClampNeg x2_46))), (q_4, .inl (cZ, 24, .inl (fun _ => 0))), (q_7, .inl (cI, 20, .inl (fun _ => 0))), (q_10, .inl (cI, 20, .inl (fun _ => 0))), (q_13, .inl (cZ, 2, .inl (fun _ => 0))), (q_16, .inl (cI, 8, .inl (fun _ => 0))), (q_19, .inl (cI, 8, .inl (fun _ => 0))), (q_22, .inl (cI, 8, .inl (fun _ => 0))), (q_25, .inl (cI, 8, .inl (fun _ => 0)))]) := hD
            refine lv_iinc (v := (x2_46 + 1)) (lv' := [(2, .int (x2_46 + 1)), (0, .ref h0), (1, .int x1)]) hx hb d_M_init_154 hl (k := 0) rfl rfl (by decide) rfl (fun ls hl => ?_)
            refine lv_goto (tgt := 141) hx hb d_M_init_157 (by decide) ?_
            exact ih_141 (x2_46 + 1) (upd m_placeOf_47 (x2_46).toNatClampNeg x2_46) _ _ _ hw hP hD hS (lv_sub hl [0, 1, 2] rfl)
      exact key_141 n_141 (0 : Int32) (fun _ => 0) _ _ _ hw hP hD hS (lv_sub hl [0, 1, 2] rfl)
  · have hw := hw.2 c_28
    refine lv_iconst (v := (0 : Int32)) hx hb d_M_init_120 (by decide) ?_
    refine lv_goto (tgt := 136) hx hb d_M_init_121 (by decide) ?_
    refine va_putF (D := D) (ci := 2) (v := .int (0 : Int32)) (ty := .int) (C := R_M) (T := F_M) (N := 18) hx hb hts (iK iW_M) t_M t_M_ok n_M hown hK hP hD hS 0 rfl rfl 1 (by decide) (hts _ (kM kw_7139d127)) (fun _ h9 => h9) rfl hin rfl (by decide +kernel) rfl rfl (Nat.le_of_ble_eq_true rfl) d_M_init_136 (fun H locs hP hD hS => ?_)
    have hP : va_P D classes ([(h0, .inr (2, [.int (0 : Int32), .int (0 : Int32), .int (0 : Int32), .ref q_1, .ref q_4, .ref q_7, .ref q_10, .ref q_13, .int (0 : Int32), .int (0 : Int32), .int (0 : Int32), .ref q_16, .int (0 : Int32), .ref q_19, .int (0 : Int32), .int (0 : Int32), .ref q_22, .ref q_25])), (q_1, .inl (cI, 24, .inl (fun _ => 0))), (q_4, .inl (cZ, 24, .inl (fun _ => 0))), (q_7, .inl (cI, 20, .inl (fun _ => 0))), (q_10, .inl (cI, 20, .inl (fun _ => 0))), (q_13, .inl (cZ, 2, .inl (fun _ => 0))), (q_16, .inl (cI, 8, .inl (fun _ => 0))), (q_19, .inl (cI, 8, .inl (fun _ => 0))), (q_22, .inl (cI, 8, .inl (fun _ => 0))), (q_25, .inl (cI, 8, .inl (fun _ => 0)))]) H := hP
    have hD : va_D A ([(h0, .inr (2, [.int (0 : Int32), .int (0 : Int32), .int (0 : Int32), .ref q_1, .ref q_4, .ref q_7, .ref q_10, .ref q_13, .int (0 : Int32), .int (0 : Int32), .int (0 : Int32), .ref q_16, .int (0 : Int32), .ref q_19, .int (0 : Int32), .int (0 : Int32), .ref q_22, .ref q_25])), (q_1, .inl (cI, 24, .inl (fun _ => 0))), (q_4, .inl (cZ, 24, .inl (fun _ => 0))), (q_7, .inl (cI, 20, .inl (fun _ => 0))), (q_10, .inl (cI, 20, .inl (fun _ => 0))), (q_13, .inl (cZ, 2, .inl (fun _ => 0))), (q_16, .inl (cI, 8, .inl (fun _ => 0))), (q_19, .inl (cI, 8, .inl (fun _ => 0))), (q_22, .inl (cI, 8, .inl (fun _ => 0))), (q_25, .inl (cI, 8, .inl (fun _ => 0)))]) := hD
    refine lv_iconst (v := (0 : Int32)) hx hb d_M_init_139 (by decide) ?_
    refine lv_istore_n (lv' := [(2, .int (0 : Int32)), (0, .ref h0), (1, .int x1)]) hx hb d_M_init_140 rfl hl (by decide) rfl (fun ls hl => ?_)
    obtain ⟨K_141, hK_141⟩ : ∃ z : Int32 → (Nat → Int32) → Prop, z = (fun (k_62 : Int32) (k_63 : Nat → Int32) => (∃ n, p_M_init_L162 (fun (k_68 : Int32) (k_69 : Nat → Int32) => post (0 : Int32) (0 : Int32) (0 : Int32) (0 : Int32) (0 : Int32) (0 : Int32) (0 : Int32) (0 : Int32) (0 : Int32) k_63 (fun _ => 0) k_69 (fun _ => 0) (fun _ => 0) (fun _ => 0) (fun _ => 0) (fun _ => 0) (fun _ => 0)) n (0 : Int32) (fun _ => 0))) := ⟨_, rfl⟩
    have hw : ∃ n, p_M_init_L141 K_141 n (0 : Int32) (fun _ => 0) := by rw [hK_141]; exact hw
    obtain ⟨n_141, hw⟩ := hw
    have key_141 : ∀ (n : Nat) (x2_58 : Int32) (m_placeOf_59 : Nat → Int32) (H : Heap) (locs : List Loc) (ls : Array Slot), p_M_init_L141 K_141 n x2_58 m_placeOf_59 → va_P D classes ([(h0, .inr (2, [.int ((0 : Int32)), .int ((0 : Int32)), .int ((0 : Int32)), .ref q_1, .ref q_4, .ref q_7, .ref q_10, .ref q_13, .int ((0 : Int32)), .int ((0 : Int32)), .int ((0 : Int32)), .ref q_16, .int ((0 : Int32)), .ref q_19, .int ((0 : Int32)), .int ((0 : Int32)), .ref q_22, .ref q_25])), (q_1, .inl (cI, 24, .inl m_placeOf_59)), (q_4, .inl (cZ, 24, .inl (fun _ => 0))), (q_7, .inl (cI, 20, .inl (fun _ => 0))), (q_10, .inl (cI, 20, .inl (fun _ => 0))), (q_13, .inl (cZ, 2, .inl (fun _ => 0))), (q_16, .inl (cI, 8, .inl (fun _ => 0))), (q_19, .inl (cI, 8, .inl (fun _ => 0))), (q_22, .inl (cI, 8, .inl (fun _ => 0))), (q_25, .inl (cI, 8, .inl (fun _ => 0)))]) H → va_D A ([(h0, .inr (2, [.int ((0 : Int32)), .int ((0 : Int32)), .int ((0 : Int32)), .ref q_1, .ref q_4, .ref q_7, .ref q_10, .ref q_13, .int ((0 : Int32)), .int ((0 : Int32)), .int ((0 : Int32)), .ref q_16, .int ((0 : Int32)), .ref q_19, .int ((0 : Int32)), .int ((0 : Int32)), .ref q_22, .ref q_25])), (q_1, .inl (cI, 24, .inl m_placeOf_59)), (q_4, .inl (cZ, 24, .inl (fun _ => 0))), (q_7, .inl (cI, 20, .inl (fun _ => 0))), (q_10, .inl (cI, 20, .inl (fun _ => 0))), (q_13, .inl (cZ, 2, .inl (fun _ => 0))), (q_16, .inl (cI, 8, .inl (fun _ => 0))), (q_19, .inl (cI, 8, .inl (fun _ => 0))), (q_22, .inl (cI, 8, .inl (fun _ => 0))), (q_25, .inl (cI, 8, .inl (fun _ => 0)))]) → va_S A s.heap H locs → lv_has ls 3 [(2, .int x2_58), (0, .ref h0), (1, .int x1)] → W p l e (headSpec w_M_init rm_M_init).room s m ([.ref h0, .int x1] : List Value).toArray below meth c H locs 9 122 (MQ below (va_Qv (fun (u : List Nat × Int32 × Int32 × Int32 × Int32 × Int32 × Int32 × Int32 × Int32 × Int32 × (Nat → Int32) × (Nat → Int32) × (Nat → Int32) × (Nat → Int32) × (Nat → Int32) × (Nat → Int32) × (Nat → Int32) × (Nat → Int32) × (Nat → Int32)) => post u.2.1 u.2.2.1 u.2.2.2.1 u.2.2.2.2.1 u.2.2.2.2.2.1 u.2.2.2.2.2.2.1 u.2.2.2.2.2.2.2.1 u.2.2.2.2.2.2.2.2.1 u.2.2.2.2.2.2.2.2.2.1 u.2.2.2.2.2.2.2.2.2.2.1 u.2.2.2.2.2.2.2.2.2.2.2.1 u.2.2.2.2.2.2.2.2.2.2.2.2.1 u.2.2.2.2.2.2.2.2.2.2.2.2.2.1 u.2.2.2.2.2.2.2.2.2.2.2.2.2.2.1 u.2.2.2.2.2.2.2.2.2.2.2.2.2.2.2.1 u.2.2.2.2.2.2.2.2.2.2.2.2.2.2.2.2.1 u.2.2.2.2.2.2.2.2.2.2.2.2.2.2.2.2.2.1 u.2.2.2.2.2.2.2.2.2.2.2.2.2.2.2.2.2.2) (fun (u : List Nat × Int32 × Int32 × Int32 × Int32 × Int32 × Int32 × Int32 × Int32 × Int32 × (Nat → Int32) × (Nat → Int32) × (Nat → Int32) × (Nat → Int32) × (Nat → Int32) × (Nat → Int32) × (Nat → Int32) × (Nat → Int32) × (Nat → Int32)) t => va_P D classes (mW (adM h0 u.1) cI cZ u.2.1 u.2.2.1 u.2.2.2.1 u.2.2.2.2.1 u.2.2.2.2.2.1 u.2.2.2.2.2.2.1 u.2.2.2.2.2.2.2.1 u.2.2.2.2.2.2.2.2.1 u.2.2.2.2.2.2.2.2.2.1 u.2.2.2.2.2.2.2.2.2.2.1 u.2.2.2.2.2.2.2.2.2.2.2.1 u.2.2.2.2.2.2.2.2.2.2.2.2.1 u.2.2.2.2.2.2.2.2.2.2.2.2.2.1 u.2.2.2.2.2.2.2.2.2.2.2.2.2.2.1 u.2.2.2.2.2.2.2.2.2.2.2.2.2.2.2.1 u.2.2.2.2.2.2.2.2.2.2.2.2.2.2.2.2.1 u.2.2.2.2.2.2.2.2.2.2.2.2.2.2.2.2.2.1 u.2.2.2.2.2.2.2.2.2.2.2.2.2.2.2.2.2.2) t.heap ∧ va_K D classes [(cI, .int), (cZ, .boolean)] t ∧ va_D A (mW (adM h0 u.1) cI cZ u.2.1 u.2.2.1 u.2.2.2.1 u.2.2.2.2.1 u.2.2.2.2.2.1 u.2.2.2.2.2.2.1 u.2.2.2.2.2.2.2.1 u.2.2.2.2.2.2.2.2.1 u.2.2.2.2.2.2.2.2.2.1 u.2.2.2.2.2.2.2.2.2.2.1 u.2.2.2.2.2.2.2.2.2.2.2.1 u.2.2.2.2.2.2.2.2.2.2.2.2.1 u.2.2.2.2.2.2.2.2.2.2.2.2.2.1 u.2.2.2.2.2.2.2.2.2.2.2.2.2.2.1 u.2.2.2.2.2.2.2.2.2.2.2.2.2.2.2.1 u.2.2.2.2.2.2.2.2.2.2.2.2.2.2.2.2.1 u.2.2.2.2.2.2.2.2.2.2.2.2.2.2.2.2.2.1 u.2.2.2.2.2.2.2.2.2.2.2.2.2.2.2.2.2.2)) A) ([.ref h0, .int x1] : List Value).toArray s 9 122 A) (F0 m 141 ls []) := by
      intro n
      induction n with
      | zero => intro x2_58 m_placeOf_59 H locs ls hw hP hD hS hl; exact hw.elim
      | succ n ih_141 =>
        intro x2_58 m_placeOf_59 H locs ls hw hP hD hS hl
        have hw : p_M_init_L141_B K_141 (p_M_init_L141 K_141 n) x2_58 m_placeOf_59 := hw
        generalize p_M_init_L141 K_141 n = rec_141 at hw ih_141
        refine lv_iload_n hx hb d_M_init_141 rfl (lv_at hl 0 rfl) ?_
        refine lv_bipush (v := (24 : Int32)) hx hb d_M_init_142 (by decide) ?_
        refine lv_icmp_ge (tgt := 160) hx hb d_M_init_144 (by decide) (fun c_60 => ?_) (fun c_60 => ?_)
        · have hw := hw.1 c_60
          rw [hK_141] at hw
          have hl : lv_has ls 3 [(2, .int x2_58), (0, .ref h0), (1, .int x1)] := lv_sub hl [0, 1, 2] rfl
          refine lv_iconst (v := (0 : Int32)) hx hb d_M_init_160 (by decide) ?_
          refine lv_istore_n (lv' := [(2, .int (0 : Int32)), (0, .ref h0), (1, .int x1)]) hx hb d_M_init_161 rfl hl (by decide) rfl (fun ls hl => ?_)
          obtain ⟨K_162, hK_162⟩ : ∃ z : Int32 → (Nat → Int32) → Prop, z = (fun (k_68 : Int32) (k_69 : Nat → Int32) => post (0 : Int32) (0 : Int32) (0 : Int32) (0 : Int32) (0 : Int32) (0 : Int32) (0 : Int32) (0 : Int32) (0 : Int32) m_placeOf_59 (fun _ => 0) k_69 (fun _ => 0) (fun _ => 0) (fun _ => 0) (fun _ => 0) (fun _ => 0) (fun _ => 0)) := ⟨_, rfl⟩
          have hw : ∃ n, p_M_init_L162 K_162 n (0 : Int32) (fun _ => 0) := by rw [hK_162]; exact hw
          obtain ⟨n_162, hw⟩ := hw
          have key_162 : ∀ (n : Nat) (x2_64 : Int32) (m_on_65 : Nat → Int32) (H : Heap) (locs : List Loc) (ls : Array Slot), p_M_init_L162 K_162 n x2_64 m_on_65 → va_P D classes ([(h0, .inr (2, [.int ((0 : Int32)), .int ((0 : Int32)), .int ((0 : Int32)), .ref q_1, .ref q_4, .ref q_7, .ref q_10, .ref q_13, .int ((0 : Int32)), .int ((0 : Int32)), .int ((0 : Int32)), .ref q_16, .int ((0 : Int32)), .ref q_19, .int ((0 : Int32)), .int ((0 : Int32)), .ref q_22, .ref q_25])), (q_1, .inl (cI, 24, .inl m_placeOf_59)), (q_4, .inl (cZ, 24, .inl (fun _ => 0))), (q_7, .inl (cI, 20, .inl m_on_65)), (q_10, .inl (cI, 20, .inl (fun _ => 0))), (q_13, .inl (cZ, 2, .inl (fun _ => 0))), (q_16, .inl (cI, 8, .inl (fun _ => 0))), (q_19, .inl (cI, 8, .inl (fun _ => 0))), (q_22, .inl (cI, 8, .inl (fun _ => 0))), (q_25, .inl (cI, 8, .inl (fun _ => 0)))]) H → va_D A ([(h0, .inr (2, [.int ((0 : Int32)), .int ((0 : Int32)), .int ((0 : Int32)), .ref q_1, .ref q_4, .ref q_7, .ref q_10, .ref q_13, .int ((0 : Int32)), .int ((0 : Int32)), .int ((0 : Int32)), .ref q_16, .int ((0 : Int32)), .ref q_19, .int ((0 : Int32)), .int ((0 : Int32)), .ref q_22, .ref q_25])), (q_1, .inl (cI, 24, .inl m_placeOf_59)), (q_4, .inl (cZ, 24, .inl (fun _ => 0))), (q_7, .inl (cI, 20, .inl m_on_65)), (q_10, .inl (cI, 20, .inl (fun _ => 0))), (q_13, .inl (cZ, 2, .inl (fun _ => 0))), (q_16, .inl (cI, 8, .inl (fun _ => 0))), (q_19, .inl (cI, 8, .inl (fun _ => 0))), (q_22, .inl (cI, 8, .inl (fun _ => 0))), (q_25, .inl (cI, 8, .inl (fun _ => 0)))]) → va_S A s.heap H locs → lv_has ls 3 [(2, .int x2_64), (0, .ref h0), (1, .int x1)] → W p l e (headSpec w_M_init rm_M_init).room s m ([.ref h0, .int x1] : List Value).toArray below meth c H locs 9 122 (MQ below (va_Qv (fun (u : List Nat × Int32 × Int32 × Int32 × Int32 × Int32 × Int32 × Int32 × Int32 × Int32 × (Nat → Int32) × (Nat → Int32) × (Nat → Int32) × (Nat → Int32) × (Nat → Int32) × (Nat → Int32) × (Nat → Int32) × (Nat → Int32) × (Nat → Int32)) => post u.2.1 u.2.2.1 u.2.2.2.1 u.2.2.2.2.1 u.2.2.2.2.2.1 u.2.2.2.2.2.2.1 u.2.2.2.2.2.2.2.1 u.2.2.2.2.2.2.2.2.1 u.2.2.2.2.2.2.2.2.2.1 u.2.2.2.2.2.2.2.2.2.2.1 u.2.2.2.2.2.2.2.2.2.2.2.1 u.2.2.2.2.2.2.2.2.2.2.2.2.1 u.2.2.2.2.2.2.2.2.2.2.2.2.2.1 u.2.2.2.2.2.2.2.2.2.2.2.2.2.2.1 u.2.2.2.2.2.2.2.2.2.2.2.2.2.2.2.1 u.2.2.2.2.2.2.2.2.2.2.2.2.2.2.2.2.1 u.2.2.2.2.2.2.2.2.2.2.2.2.2.2.2.2.2.1 u.2.2.2.2.2.2.2.2.2.2.2.2.2.2.2.2.2.2) (fun (u : List Nat × Int32 × Int32 × Int32 × Int32 × Int32 × Int32 × Int32 × Int32 × Int32 × (Nat → Int32) × (Nat → Int32) × (Nat → Int32) × (Nat → Int32) × (Nat → Int32) × (Nat → Int32) × (Nat → Int32) × (Nat → Int32) × (Nat → Int32)) t => va_P D classes (mW (adM h0 u.1) cI cZ u.2.1 u.2.2.1 u.2.2.2.1 u.2.2.2.2.1 u.2.2.2.2.2.1 u.2.2.2.2.2.2.1 u.2.2.2.2.2.2.2.1 u.2.2.2.2.2.2.2.2.1 u.2.2.2.2.2.2.2.2.2.1 u.2.2.2.2.2.2.2.2.2.2.1 u.2.2.2.2.2.2.2.2.2.2.2.1 u.2.2.2.2.2.2.2.2.2.2.2.2.1 u.2.2.2.2.2.2.2.2.2.2.2.2.2.1 u.2.2.2.2.2.2.2.2.2.2.2.2.2.2.1 u.2.2.2.2.2.2.2.2.2.2.2.2.2.2.2.1 u.2.2.2.2.2.2.2.2.2.2.2.2.2.2.2.2.1 u.2.2.2.2.2.2.2.2.2.2.2.2.2.2.2.2.2.1 u.2.2.2.2.2.2.2.2.2.2.2.2.2.2.2.2.2.2) t.heap ∧ va_K D classes [(cI, .int), (cZ, .boolean)] t ∧ va_D A (mW (adM h0 u.1) cI cZ u.2.1 u.2.2.1 u.2.2.2.1 u.2.2.2.2.1 u.2.2.2.2.2.1 u.2.2.2.2.2.2.1 u.2.2.2.2.2.2.2.1 u.2.2.2.2.2.2.2.2.1 u.2.2.2.2.2.2.2.2.2.1 u.2.2.2.2.2.2.2.2.2.2.1 u.2.2.2.2.2.2.2.2.2.2.2.1 u.2.2.2.2.2.2.2.2.2.2.2.2.1 u.2.2.2.2.2.2.2.2.2.2.2.2.2.1 u.2.2.2.2.2.2.2.2.2.2.2.2.2.2.1 u.2.2.2.2.2.2.2.2.2.2.2.2.2.2.2.1 u.2.2.2.2.2.2.2.2.2.2.2.2.2.2.2.2.1 u.2.2.2.2.2.2.2.2.2.2.2.2.2.2.2.2.2.1 u.2.2.2.2.2.2.2.2.2.2.2.2.2.2.2.2.2.2)) A) ([.ref h0, .int x1] : List Value).toArray s 9 122 A) (F0 m 162 ls []) := by
            intro n
            induction n with
            | zero => intro x2_64 m_on_65 H locs ls hw hP hD hS hl; exact hw.elim
            | succ n ih_162 =>
              intro x2_64 m_on_65 H locs ls hw hP hD hS hl
              have hw : p_M_init_L162_B K_162 (p_M_init_L162 K_162 n) x2_64 m_on_65 := hw
              generalize p_M_init_L162 K_162 n = rec_162 at hw ih_162
              refine lv_iload_n hx hb d_M_init_162 rfl (lv_at hl 0 rfl) ?_
              refine lv_bipush (v := (20 : Int32)) hx hb d_M_init_163 (by decide) ?_
              refine lv_icmp_ge (tgt := 181) hx hb d_M_init_165 (by decide) (fun c_66 => ?_) (fun c_66 => ?_)
              · have hw := hw.1 c_66
                rw [hK_162] at hw
                have hl : lv_has ls 3 [(2, .int x2_64), (0, .ref h0), (1, .int x1)] := lv_sub hl [0, 1, 2] rfl
                have hP9 := hP.sub (ws' := mW (adM h0 [q_1, q_4, q_7, q_10, q_13, q_16, q_19, q_22, q_25]) cI cZ (0 : Int32) (0 : Int32) (0 : Int32) (0 : Int32) (0 : Int32) (0 : Int32) (0 : Int32) (0 : Int32) (0 : Int32) m_placeOf_59 (fun _ => 0) m_on_65 (fun _ => 0) (fun _ => 0) (fun _ => 0) (fun _ => 0) (fun _ => 0) (fun _ => 0)) [0, 1, 2, 3, 4, 5, 6, 7, 8, 9] rfl
                have hD9 := hD.sub (ws' := mW (adM h0 [q_1, q_4, q_7, q_10, q_13, q_16, q_19, q_22, q_25]) cI cZ (0 : Int32) (0 : Int32) (0 : Int32) (0 : Int32) (0 : Int32) (0 : Int32) (0 : Int32) (0 : Int32) (0 : Int32) m_placeOf_59 (fun _ => 0) m_on_65 (fun _ => 0) (fun _ => 0) (fun _ => 0) (fun _ => 0) (fun _ => 0) (fun _ => 0)) [0, 1, 2, 3, 4, 5, 6, 7, 8, 9] (by decide) rfl
                have hK9 : va_K D classes [(cI, .int), (cZ, .boolean)] s := hK.sub [0, 1] rfl
                exact W.vret hx hb hr (fun t ht hW => ⟨⟨([q_1, q_4, q_7, q_10, q_13, q_16, q_19, q_22, q_25], (0 : Int32), (0 : Int32), (0 : Int32), (0 : Int32), (0 : Int32), (0 : Int32), (0 : Int32), (0 : Int32), (0 : Int32), m_placeOf_59, (fun _ => 0), m_on_65, (fun _ => 0), (fun _ => 0), (fun _ => 0), (fun _ => 0), (fun _ => 0), (fun _ => 0)), rfl, hw, by rw [ht]; exact hP9, va_K.moved hW.alike hK9, hD9⟩, hS.F ht⟩) hS.2.2 d_M_init_181
              · have hw := hw.2 c_66
                refine lv_aload_n hx hb d_M_init_168 rfl (lv_at hl 1 rfl) ?_
                refine va_get (D := D) (ci := 2) (v := .ref q_7) (C := R_M) (T := F_M) (N := 18) hx hb hts (iK iW_M) hown hK hP 0 rfl rfl 5 (by decide) (hts _ (kM kw_7ca6b28c)) (fun _ h9 => h9) rfl d_M_init_169 ?_
                refine lv_iload_n hx hb d_M_init_172 rfl (lv_at hl 0 rfl) ?_
                refine lv_iconst (v := (-1 : Int32)) hx hb d_M_init_173 (by decide) ?_
                obtain ⟨h_67, hw⟩ := hw
                refine va_iast hx hb hK hP hD hS 3 0 rfl rfl h_67 d_M_init_174 (fun H locs hP hD hS => ?_)
                have hP : va_P D classes ([(h0, .inr (2, [.int ((0 : Int32)), .int ((0 : Int32)), .int ((0 : Int32)), .ref q_1, .ref q_4, .ref q_7, .ref q_10, .ref q_13, .int ((0 : Int32)), .int ((0 : Int32)), .int ((0 : Int32)), .ref q_16, .int ((0 : Int32)), .ref q_19, .int ((0 : Int32)), .int ((0 : Int32)), .ref q_22, .ref q_25])), (q_1, .inl (cI, 24, .inl m_placeOf_59)), (q_4, .inl (cZ, 24, .inl (fun _ => 0))), (q_7, .inl (cI, 20, .inl (upd m_on_65 (x2_64).toNatClampNeg (-1 : Int32)))), (q_10, .inl (cI, 20, .inl (fun _ => 0))), (q_13, .inl (cZ, 2, .inl (fun _ => 0))), (q_16, .inl (cI, 8, .inl (fun _ => 0))), (q_19, .inl (cI, 8, .inl (fun _ => 0))), (q_22, .inl (cI, 8, .inl (fun _ => 0))), (q_25, .inl (cI, 8, .inl (fun _ => 0)))]) H := hP
                have hD : va_D A ([(h0, .inr (2, [.int ((0 : Int32)), .int ((0 : Int32)), .int ((0 : Int32)), .ref q_1, .ref q_4, .ref q_7, .ref q_10, .ref q_13, .int ((0 : Int32)), .int ((0 : Int32)), .int ((0 : Int32)), .ref q_16, .int ((0 : Int32)), .ref q_19, .int ((0 : Int32)), .int ((0 : Int32)), .ref q_22, .ref q_25])), (q_1, .inl (cI, 24, .inl m_placeOf_59)), (q_4, .inl (cZ, 24, .inl (fun _ => 0))), (q_7, .inl (cI, 20, .inl (upd m_on_65 (x2_64).toNatClampNeg (-1 : Int32)))), (q_10, .inl (cI, 20, .inl (fun _ => 0))), (q_13, .inl (cZ, 2, .inl (fun _ => 0))), (q_16, .inl (cI, 8, .inl (fun _ => 0))), (q_19, .inl (cI, 8, .inl (fun _ => 0))), (q_22, .inl (cI, 8, .inl (fun _ => 0))), (q_25, .inl (cI, 8, .inl (fun _ => 0)))]) := hD
                refine lv_iinc (v := (x2_64 + 1)) (lv' := [(2, .int (x2_64 + 1)), (0, .ref h0), (1, .int x1)]) hx hb d_M_init_175 hl (k := 0) rfl rfl (by decide) rfl (fun ls hl => ?_)
                refine lv_goto (tgt := 162) hx hb d_M_init_178 (by decide) ?_
                exact ih_162 (x2_64 + 1) (upd m_on_65 (x2_64).toNatClampNeg (-1 : Int32)) _ _ _ hw hP hD hS (lv_sub hl [0, 1, 2] rfl)
          exact key_162 n_162 (0 : Int32) (fun _ => 0) _ _ _ hw hP hD hS (lv_sub hl [0, 1, 2] rfl)
        · have hw := hw.2 c_60
          refine lv_aload_n hx hb d_M_init_147 rfl (lv_at hl 1 rfl) ?_
          refine va_get (D := D) (ci := 2) (v := .ref q_1) (C := R_M) (T := F_M) (N := 18) hx hb hts (iK iW_M) hown hK hP 0 rfl rfl 3 (by decide) (hts _ (kM kw_1dda6185)) (fun _ h9 => h9) rfl d_M_init_148 ?_
          refine lv_iload_n hx hb d_M_init_151 rfl (lv_at hl 0 rfl) ?_
          refine lv_iload_n hx hb d_M_init_152 rfl (lv_at hl 0 rfl) ?_
          obtain ⟨h_61, hw⟩ := hw
          refine va_iast hx hb hK hP hD hS 1 0 rfl rfl h_61 d_M_init_153 (fun H locs hP hD hS => ?_)
          have hP : va_P D classes ([(h0, .inr (2, [.int ((0 : Int32)), .int ((0 : Int32)), .int ((0 : Int32)), .ref q_1, .ref q_4, .ref q_7, .ref q_10, .ref q_13, .int ((0 : Int32)), .int ((0 : Int32)), .int ((0 : Int32)), .ref q_16, .int ((0 : Int32)), .ref q_19, .int ((0 : Int32)), .int ((0 : Int32)), .ref q_22, .ref q_25])), (q_1, .inl (cI, 24, .inl (upd m_placeOf_59 (x2_58).toNatClampNeg x2_58))), (q_4, .inl (cZ, 24, .inl (fun _ => 0))), (q_7, .inl (cI, 20, .inl (fun _ => 0))), (q_10, .inl (cI, 20, .inl (fun _ => 0))), (q_13, .inl (cZ, 2, .inl (fun _ => 0))), (q_16, .inl (cI, 8, .inl (fun _ => 0))), (q_19, .inl (cI, 8, .inl (fun _ => 0))), (q_22, .inl (cI, 8, .inl (fun _ => 0))), (q_25, .inl (cI, 8, .inl (fun _ => 0)))]) H := hP
          have hD : va_D A ([(h0, .inr (2, [.int ((0 : Int32)), .int ((0 : Int32)), .int ((0 : Int32)), .ref q_1, .ref q_4, .ref q_7, .ref q_10, .ref q_13, .int ((0 : Int32)), .int ((0 : Int32)), .int ((0 : Int32)), .ref q_16, .int ((0 : Int32)), .ref q_19, .int ((0 : Int32)), .int ((0 : Int32)), .ref q_22, .ref q_25])), (q_1, .inl (cI, 24, .inl (upd m_placeOf_59 (x2_58).toNatClampNeg x2_58))), (q_4, .inl (cZ, 24, .inl (fun _ => 0))), (q_7, .inl (cI, 20, .inl (fun _ => 0))), (q_10, .inl (cI, 20, .inl (fun _ => 0))), (q_13, .inl (cZ, 2, .inl (fun _ => 0))), (q_16, .inl (cI, 8, .inl (fun _ => 0))), (q_19, .inl (cI, 8, .inl (fun _ => 0))), (q_22, .inl (cI, 8, .inl (fun _ => 0))), (q_25, .inl (cI, 8, .inl (fun _ => 0)))]) := hD
          refine lv_iinc (v := (x2_58 + 1)) (lv' := [(2, .int (x2_58 + 1)), (0, .ref h0), (1, .int x1)]) hx hb d_M_init_154 hl (k := 0) rfl rfl (by decide) rfl (fun ls hl => ?_)
          refine lv_goto (tgt := 141) hx hb d_M_init_157 (by decide) ?_
          exact ih_141 (x2_58 + 1) (upd m_placeOf_59 (x2_58).toNatClampNeg x2_58) _ _ _ hw hP hD hS (lv_sub hl [0, 1, 2] rfl)
    exact key_141 n_141 (0 : Int32) (fun _ => 0) _ _ _ hw hP hD hS (lv_sub hl [0, 1, 2] rfl)
def p_M_distance (x1 : Int32) (x2 : Int32) (m_places : Int32) (post : Int32 → Prop) : Prop := ((x2 ≤ x1 → (((m_places - (x1 - x2)) < (x1 - x2) → post (m_places - (x1 - x2))) ∧ (¬ (m_places - (x1 - x2)) < (x1 - x2) → post (x1 - x2)))) ∧ (¬ x2 ≤ x1 → (((m_places - (x2 - x1)) < (x2 - x1) → post (m_places - (x2 - x1))) ∧ (¬ (m_places - (x2 - x1)) < (x2 - x1) → post (x2 - x1)))))
abbrev rm_M_distance : Room := { frames := 1, cells := 0, slots := 0, locals := 40 }
set_option maxHeartbeats 4000000 in
set_option maxRecDepth 100000 in
theorem c_M_distance {l : Launch} {D : va_G} {sa : Nat → Nat} {cI cZ : ClassId} {sz : Nat} {d : Nat → Nat} {m_thrownCode : Int32} {m_places : Int32} {m_front : Int32} {m_turns : Int32} {m_fetched : Int32} {m_listed : Int32} {m_planned : Int32} {m_wasExact : Int32} {m_shelves : Int32} {m_placeOf : Nat → Int32} {m_blockedShelf : Nat → Int32} {m_on : Nat → Int32} {m_counts : Nat → Int32} {m_doors : Nat → Int32} {m_list : Nat → Int32} {m_plan : Nat → Int32} {m_shelf : Nat → Int32} {m_trial : Nat → Int32} {x1 : Int32} {x2 : Int32} {post : Int32 → Prop} (hw : p_M_distance x1 x2 m_places post) : Met l y_M_distance w_M_distance rm_M_distance (va_Pc [.ref (d 0), .int x1, .int x2] (kP D sa [(cI, .int), (cZ, .boolean)] (mW d cI cZ m_thrownCode m_places m_front m_turns m_fetched m_listed m_planned m_wasExact m_shelves m_placeOf m_blockedShelf m_on m_counts m_doors m_list m_plan m_shelf m_trial) sz)) (vp_Si post) 0 0 (fun _ => False) := by
  refine Met.ofW (cc := b_M_distance) (maxL := 4) (ret := (some .int)) (by decide) rfl ?_
  intro p e s m args below meth c s₁ B hml hv
  obtain ⟨rfl, hsz, hP, hK, hD0, hZ⟩ := hv
  have hx := B.exec
  have hb := B.bytes
  have hr := B.returns
  have hts := atoms_spec (ws := w_M_distance) B.pre
  have hown : s.vm.findClass R_M = some m.cls := findClass_of_methodNamed B.named
  have hlocks := B.notSynchronized
  subst hsz
  have hD := hD0.self (sz := s.heap.size)
  generalize hAe : (va_A (mW d cI cZ m_thrownCode m_places m_front m_turns m_fetched m_listed m_planned m_wasExact m_shelves m_placeOf m_blockedShelf m_on m_counts m_doors m_list m_plan m_shelf m_trial) s.heap.size) = A at hD hZ
  have hA : ∀ q : Nat, s.heap.size ≤ q → A q := fun q h => by rw [← hAe]; exact Or.inr h
  have hS : va_S A s.heap s.heap [] := va_S.rf
  have hl := lv_entry ([.ref (d 0), .int x1, .int x2]) (n := 4) (Nat.le_of_ble_eq_true rfl)
  rw [lg_entry_eq]
  generalize (lg_sl ([.ref (d 0), .int x1, .int x2]) ++ List.replicate (4 - (lg_sl ([.ref (d 0), .int x1, .int x2])).length) Slot.unset).toArray = ls at hl ⊢
  have hl : lv_has ls 4 [(0, .ref (d 0)), (1, .int x1), (2, .int x2)] := hl
  refine lv_iload_n hx hb d_M_distance_0 rfl (lv_at hl 1 rfl) ?_
  refine lv_iload_n hx hb d_M_distance_1 rfl (lv_at hl 2 rfl) ?_
  refine lv_icmp_ge (tgt := 11) hx hb d_M_distance_2 (by decide) (fun c_1 => ?_) (fun c_1 => ?_)
  · have hw := hw.1 c_1
    refine lv_iload_n hx hb d_M_distance_11 rfl (lv_at hl 1 rfl) ?_
    refine lv_iload_n hx hb d_M_distance_12 rfl (lv_at hl 2 rfl) ?_
    refine lv_isub hx hb d_M_distance_13 ?_
    refine lv_istore_n (lv' := [(3, .int (x1 - x2)), (0, .ref (d 0)), (1, .int x1), (2, .int x2)]) hx hb d_M_distance_14 rfl hl (by decide) rfl (fun ls hl => ?_)
    refine lv_iload_n hx hb d_M_distance_15 rfl (lv_at hl 0 rfl) ?_
    refine lv_aload_n hx hb d_M_distance_16 rfl (lv_at hl 1 rfl) ?_
    refine va_get (D := D) (ci := 2) (v := .int m_places) (C := R_M) (T := F_M) (N := 18) hx hb hts (iK iW_M) hown hK hP 0 rfl rfl 1 (by decide) (hts _ (kM kw_7139d127)) (fun _ h9 => h9) rfl d_M_distance_17 ?_
    refine lv_iload_n hx hb d_M_distance_20 rfl (lv_at hl 0 rfl) ?_
    refine lv_isub hx hb d_M_distance_21 ?_
    refine lv_icmp_gt (tgt := 29) hx hb d_M_distance_22 (by decide) (fun c_2 => ?_) (fun c_2 => ?_)
    · have hw := hw.1 c_2
      refine lv_aload_n hx hb d_M_distance_29 rfl (lv_at hl 1 rfl) ?_
      refine va_get (D := D) (ci := 2) (v := .int m_places) (C := R_M) (T := F_M) (N := 18) hx hb hts (iK iW_M) hown hK hP 0 rfl rfl 1 (by decide) (hts _ (kM kw_7139d127)) (fun _ h9 => h9) rfl d_M_distance_30 ?_
      refine lv_iload_n hx hb d_M_distance_33 rfl (lv_at hl 0 rfl) ?_
      refine lv_isub hx hb d_M_distance_34 ?_
      exact W.iret (v := (m_places - (x1 - x2))) hx hb hr (fun t ht _ => ⟨(m_places - (x1 - x2)), rfl, hw, ht⟩) (by simp) d_M_distance_35
    · have hw := hw.2 c_2
      refine lv_iload_n hx hb d_M_distance_25 rfl (lv_at hl 0 rfl) ?_
      refine lv_goto (tgt := 35) hx hb d_M_distance_26 (by decide) ?_
      exact W.iret (v := (x1 - x2)) hx hb hr (fun t ht _ => ⟨(x1 - x2), rfl, hw, ht⟩) (by simp) d_M_distance_35
  · have hw := hw.2 c_1
    refine lv_iload_n hx hb d_M_distance_5 rfl (lv_at hl 2 rfl) ?_
    refine lv_iload_n hx hb d_M_distance_6 rfl (lv_at hl 1 rfl) ?_
    refine lv_isub hx hb d_M_distance_7 ?_
    refine lv_goto (tgt := 14) hx hb d_M_distance_8 (by decide) ?_
    refine lv_istore_n (lv' := [(3, .int (x2 - x1)), (0, .ref (d 0)), (1, .int x1), (2, .int x2)]) hx hb d_M_distance_14 rfl hl (by decide) rfl (fun ls hl => ?_)
    refine lv_iload_n hx hb d_M_distance_15 rfl (lv_at hl 0 rfl) ?_
    refine lv_aload_n hx hb d_M_distance_16 rfl (lv_at hl 1 rfl) ?_
    refine va_get (D := D) (ci := 2) (v := .int m_places) (C := R_M) (T := F_M) (N := 18) hx hb hts (iK iW_M) hown hK hP 0 rfl rfl 1 (by decide) (hts _ (kM kw_7139d127)) (fun _ h9 => h9) rfl d_M_distance_17 ?_
    refine lv_iload_n hx hb d_M_distance_20 rfl (lv_at hl 0 rfl) ?_
    refine lv_isub hx hb d_M_distance_21 ?_
    refine lv_icmp_gt (tgt := 29) hx hb d_M_distance_22 (by decide) (fun c_3 => ?_) (fun c_3 => ?_)
    · have hw := hw.1 c_3
      refine lv_aload_n hx hb d_M_distance_29 rfl (lv_at hl 1 rfl) ?_
      refine va_get (D := D) (ci := 2) (v := .int m_places) (C := R_M) (T := F_M) (N := 18) hx hb hts (iK iW_M) hown hK hP 0 rfl rfl 1 (by decide) (hts _ (kM kw_7139d127)) (fun _ h9 => h9) rfl d_M_distance_30 ?_
      refine lv_iload_n hx hb d_M_distance_33 rfl (lv_at hl 0 rfl) ?_
      refine lv_isub hx hb d_M_distance_34 ?_
      exact W.iret (v := (m_places - (x2 - x1))) hx hb hr (fun t ht _ => ⟨(m_places - (x2 - x1)), rfl, hw, ht⟩) (by simp) d_M_distance_35
    · have hw := hw.2 c_3
      refine lv_iload_n hx hb d_M_distance_25 rfl (lv_at hl 0 rfl) ?_
      refine lv_goto (tgt := 35) hx hb d_M_distance_26 (by decide) ?_
      exact W.iret (v := (x2 - x1)) hx hb hr (fun t ht _ => ⟨(x2 - x1), rfl, hw, ht⟩) (by simp) d_M_distance_35
def p_M_none (x0 : Int32) (x1 : Int32) (post : Int32 → Prop) : Prop := ((x0 < 0 → post (1 : Int32)) ∧ (¬ x0 < 0 → ((x0 < x1 → post (0 : Int32)) ∧ (¬ x0 < x1 → post (1 : Int32)))))
abbrev rm_M_none : Room := { frames := 1, cells := 0, slots := 0, locals := 40 }
set_option maxHeartbeats 4000000 in
set_option maxRecDepth 100000 in
theorem c_M_none {l : Launch} {D : va_G} {sa : Nat → Nat} {cI cZ : ClassId} {sz : Nat} {x0 : Int32} {x1 : Int32} {post : Int32 → Prop} (hw : p_M_none x0 x1 post) : Met l y_M_none w_M_none rm_M_none (va_Pc [.int x0, .int x1] (kP D sa [(cI, .int), (cZ, .boolean)] ([]) sz)) (vp_Si post) 0 0 (fun _ => False) := by
  refine Met.ofW (cc := b_M_none) (maxL := 2) (ret := (some .boolean)) (by decide) rfl ?_
  intro p e s m args below meth c s₁ B hml hv
  obtain ⟨rfl, hsz, hP, hK, hD0, hZ⟩ := hv
  have hx := B.exec
  have hb := B.bytes
  have hr := B.returns
  have hts := atoms_spec (ws := w_M_none) B.pre
  have hown : s.vm.findClass R_M = some m.cls := findClass_of_methodNamed B.named
  have hlocks := B.notSynchronized
  subst hsz
  have hD := hD0.self (sz := s.heap.size)
  generalize hAe : (va_A ([]) s.heap.size) = A at hD hZ
  have hA : ∀ q : Nat, s.heap.size ≤ q → A q := fun q h => by rw [← hAe]; exact Or.inr h
  have hS : va_S A s.heap s.heap [] := va_S.rf
  have hl := lv_entry ([.int x0, .int x1]) (n := 2) (Nat.le_of_ble_eq_true rfl)
  rw [lg_entry_eq]
  generalize (lg_sl ([.int x0, .int x1]) ++ List.replicate (2 - (lg_sl ([.int x0, .int x1])).length) Slot.unset).toArray = ls at hl ⊢
  have hl : lv_has ls 2 [(0, .int x0), (1, .int x1)] := hl
  refine lv_iload_n hx hb d_M_none_0 rfl (lv_at hl 0 rfl) ?_
  refine lv_if_lt (tgt := 9) hx hb d_M_none_1 (by decide) (fun c_1 => ?_) (fun c_1 => ?_)
  · have hw := hw.1 c_1
    refine lv_iconst (v := (1 : Int32)) hx hb d_M_none_9 (by decide) ?_
    refine lv_goto (tgt := 14) hx hb d_M_none_10 (by decide) ?_
    exact W.zret (v := (1 : Int32)) (ty := .boolean) hx hb hr rfl (fun t ht _ => ⟨(1 : Int32), rfl, hw, ht⟩) (by simp) d_M_none_14
  · have hw := hw.2 c_1
    refine lv_iload_n hx hb d_M_none_4 rfl (lv_at hl 0 rfl) ?_
    refine lv_iload_n hx hb d_M_none_5 rfl (lv_at hl 1 rfl) ?_
    refine lv_icmp_lt (tgt := 13) hx hb d_M_none_6 (by decide) (fun c_2 => ?_) (fun c_2 => ?_)
    · have hw := hw.1 c_2
      refine lv_iconst (v := (0 : Int32)) hx hb d_M_none_13 (by decide) ?_
      exact W.zret (v := (0 : Int32)) (ty := .boolean) hx hb hr rfl (fun t ht _ => ⟨(0 : Int32), rfl, hw, ht⟩) (by simp) d_M_none_14
    · have hw := hw.2 c_2
      refine lv_iconst (v := (1 : Int32)) hx hb d_M_none_9 (by decide) ?_
      refine lv_goto (tgt := 14) hx hb d_M_none_10 (by decide) ?_
      exact W.zret (v := (1 : Int32)) (ty := .boolean) hx hb hr rfl (fun t ht _ => ⟨(1 : Int32), rfl, hw, ht⟩) (by simp) d_M_none_14
def p_M_lying_L4_B (v1 : Int32) (m_on : Nat → Int32) (K_4 : Int32 → Int32 → Prop) (rec_4 : Int32 → Int32 → Prop) (x2_4 : Int32) (x3_4 : Int32) : Prop := (((20 : Int32) ≤ x3_4 → K_4 x2_4 x3_4) ∧ (¬ (20 : Int32) ≤ x3_4 → (vp_in x3_4 20 ∧ ((¬ (m_on (x3_4).toNatClampNeg) = v1 → rec_4 (x2_4 + (0 : Int32)) (x3_4 + 1)) ∧ ((m_on (x3_4).toNatClampNeg) = v1 → rec_4 (x2_4 + (1 : Int32)) (x3_4 + 1))))))
def p_M_lying_L4 (v1 : Int32) (m_on : Nat → Int32) (K_4 : Int32 → Int32 → Prop) : Nat → Int32 → Int32 → Prop
  | 0 => fun _ _ => False
  | n + 1 => p_M_lying_L4_B v1 m_on K_4 (p_M_lying_L4 v1 m_on K_4 n)
def p_M_lying (x1 : Int32) (m_on : Nat → Int32) (post : Int32 → Prop) : Prop := (∃ n, p_M_lying_L4 x1 m_on (fun (k_9 : Int32) (k_10 : Int32) => post k_9) n (0 : Int32) (0 : Int32))
abbrev rm_M_lying : Room := { frames := 1, cells := 0, slots := 0, locals := 40 }
set_option maxHeartbeats 4000000 in
set_option maxRecDepth 100000 in
theorem c_M_lying {l : Launch} {D : va_G} {sa : Nat → Nat} {cI cZ : ClassId} {sz : Nat} {d : Nat → Nat} {m_thrownCode : Int32} {m_places : Int32} {m_front : Int32} {m_turns : Int32} {m_fetched : Int32} {m_listed : Int32} {m_planned : Int32} {m_wasExact : Int32} {m_shelves : Int32} {m_placeOf : Nat → Int32} {m_blockedShelf : Nat → Int32} {m_on : Nat → Int32} {m_counts : Nat → Int32} {m_doors : Nat → Int32} {m_list : Nat → Int32} {m_plan : Nat → Int32} {m_shelf : Nat → Int32} {m_trial : Nat → Int32} {x1 : Int32} {post : Int32 → Prop} (hw : p_M_lying x1 m_on post) : Met l y_M_lying w_M_lying rm_M_lying (va_Pc [.ref (d 0), .int x1] (kP D sa [(cI, .int), (cZ, .boolean)] (mW d cI cZ m_thrownCode m_places m_front m_turns m_fetched m_listed m_planned m_wasExact m_shelves m_placeOf m_blockedShelf m_on m_counts m_doors m_list m_plan m_shelf m_trial) sz)) (vp_Si post) 0 0 (fun _ => False) := by
  refine Met.ofW (cc := b_M_lying) (maxL := 4) (ret := (some .int)) (by decide) rfl ?_
  intro p e s m args below meth c s₁ B hml hv
  obtain ⟨rfl, hsz, hP, hK, hD0, hZ⟩ := hv
  have hx := B.exec
  have hb := B.bytes
  have hr := B.returns
  have hts := atoms_spec (ws := w_M_lying) B.pre
  have hown : s.vm.findClass R_M = some m.cls := findClass_of_methodNamed B.named
  have hlocks := B.notSynchronized
  subst hsz
  have hD := hD0.self (sz := s.heap.size)
  generalize hAe : (va_A (mW d cI cZ m_thrownCode m_places m_front m_turns m_fetched m_listed m_planned m_wasExact m_shelves m_placeOf m_blockedShelf m_on m_counts m_doors m_list m_plan m_shelf m_trial) s.heap.size) = A at hD hZ
  have hA : ∀ q : Nat, s.heap.size ≤ q → A q := fun q h => by rw [← hAe]; exact Or.inr h
  have hS : va_S A s.heap s.heap [] := va_S.rf
  have hl := lv_entry ([.ref (d 0), .int x1]) (n := 4) (Nat.le_of_ble_eq_true rfl)
  rw [lg_entry_eq]
  generalize (lg_sl ([.ref (d 0), .int x1]) ++ List.replicate (4 - (lg_sl ([.ref (d 0), .int x1])).length) Slot.unset).toArray = ls at hl ⊢
  have hl : lv_has ls 4 [(0, .ref (d 0)), (1, .int x1)] := hl
  refine lv_iconst (v := (0 : Int32)) hx hb d_M_lying_0 (by decide) ?_
  refine lv_istore_n (lv' := [(2, .int (0 : Int32)), (0, .ref (d 0)), (1, .int x1)]) hx hb d_M_lying_1 rfl hl (by decide) rfl (fun ls hl => ?_)
  refine lv_iconst (v := (0 : Int32)) hx hb d_M_lying_2 (by decide) ?_
  refine lv_istore_n (lv' := [(3, .int (0 : Int32)), (2, .int (0 : Int32)), (0, .ref (d 0)), (1, .int x1)]) hx hb d_M_lying_3 rfl hl (by decide) rfl (fun ls hl => ?_)
  obtain ⟨K_4, hK_4⟩ : ∃ z : Int32 → Int32 → Prop, z = (fun (k_9 : Int32) (k_10 : Int32) => post k_9) := ⟨_, rfl⟩
  have hw : ∃ n, p_M_lying_L4 x1 m_on K_4 n (0 : Int32) (0 : Int32) := by rw [hK_4]; exact hw
  obtain ⟨n_4, hw⟩ := hw
  have key_4 : ∀ (n : Nat) (x2_5 : Int32) (x3_4 : Int32) (ls : Array Slot), p_M_lying_L4 x1 m_on K_4 n x2_5 x3_4 → lv_has ls 4 [(3, .int x3_4), (2, .int x2_5), (0, .ref (d 0)), (1, .int x1)] → W p l e (headSpec w_M_lying rm_M_lying).room s m ([.ref (d 0), .int x1] : List Value).toArray below meth c s.heap [] 0 0 (MQ below (vp_Si post) ([.ref (d 0), .int x1] : List Value).toArray s 0 0 (fun _ => False)) (F0 m 4 ls []) := by
    intro n
    induction n with
    | zero => intro x2_5 x3_4 ls hw hl; exact hw.elim
    | succ n ih_4 =>
      intro x2_5 x3_4 ls hw hl
      have hw : p_M_lying_L4_B x1 m_on K_4 (p_M_lying_L4 x1 m_on K_4 n) x2_5 x3_4 := hw
      generalize p_M_lying_L4 x1 m_on K_4 n = rec_4 at hw ih_4
      refine lv_iload_n hx hb d_M_lying_4 rfl (lv_at hl 0 rfl) ?_
      refine lv_bipush (v := (20 : Int32)) hx hb d_M_lying_5 (by decide) ?_
      refine lv_icmp_ge (tgt := 34) hx hb d_M_lying_7 (by decide) (fun c_6 => ?_) (fun c_6 => ?_)
      · have hw := hw.1 c_6
        rw [hK_4] at hw
        have hl : lv_has ls 4 [(3, .int x3_4), (2, .int x2_5), (0, .ref (d 0)), (1, .int x1)] := lv_sub hl [0, 1, 2, 3] rfl
        refine lv_iload_n hx hb d_M_lying_34 rfl (lv_at hl 1 rfl) ?_
        exact W.iret (v := x2_5) hx hb hr (fun t ht _ => ⟨x2_5, rfl, hw, ht⟩) (by simp) d_M_lying_35
      · have hw := hw.2 c_6
        refine lv_iload_n hx hb d_M_lying_10 rfl (lv_at hl 1 rfl) ?_
        refine lv_aload_n hx hb d_M_lying_11 rfl (lv_at hl 2 rfl) ?_
        refine va_get (D := D) (ci := 2) (v := .ref (d 3)) (C := R_M) (T := F_M) (N := 18) hx hb hts (iK iW_M) hown hK hP 0 rfl rfl 5 (by decide) (hts _ (kM kw_7ca6b28c)) (fun _ h9 => h9) rfl d_M_lying_12 ?_
        refine lv_iload_n hx hb d_M_lying_15 rfl (lv_at hl 0 rfl) ?_
        obtain ⟨h_7, hw⟩ := hw
        refine va_iald hx hb hK hP 3 0 rfl rfl h_7 d_M_lying_16 ?_
        refine lv_iload_n hx hb d_M_lying_17 rfl (lv_at hl 3 rfl) ?_
        refine lv_icmp_ne (tgt := 25) hx hb d_M_lying_18 (by decide) (fun c_8 => ?_) (fun c_8 => ?_)
        · have hw := hw.1 c_8
          refine lv_iconst (v := (0 : Int32)) hx hb d_M_lying_25 (by decide) ?_
          refine lv_iadd hx hb d_M_lying_26 ?_
          refine lv_istore_n (lv' := [(2, .int (x2_5 + (0 : Int32))), (3, .int x3_4), (0, .ref (d 0)), (1, .int x1)]) hx hb d_M_lying_27 rfl hl (by decide) rfl (fun ls hl => ?_)
          refine lv_iinc (v := (x3_4 + 1)) (lv' := [(3, .int (x3_4 + 1)), (2, .int (x2_5 + (0 : Int32))), (0, .ref (d 0)), (1, .int x1)]) hx hb d_M_lying_28 hl (k := 1) rfl rfl (by decide) rfl (fun ls hl => ?_)
          refine lv_goto (tgt := 4) hx hb d_M_lying_31 (by decide) ?_
          exact ih_4 (x2_5 + (0 : Int32)) (x3_4 + 1) _ hw (lv_sub hl [0, 1, 2, 3] rfl)
        · have hw := hw.2 c_8
          refine lv_iconst (v := (1 : Int32)) hx hb d_M_lying_21 (by decide) ?_
          refine lv_goto (tgt := 26) hx hb d_M_lying_22 (by decide) ?_
          refine lv_iadd hx hb d_M_lying_26 ?_
          refine lv_istore_n (lv' := [(2, .int (x2_5 + (1 : Int32))), (3, .int x3_4), (0, .ref (d 0)), (1, .int x1)]) hx hb d_M_lying_27 rfl hl (by decide) rfl (fun ls hl => ?_)
          refine lv_iinc (v := (x3_4 + 1)) (lv' := [(3, .int (x3_4 + 1)), (2, .int (x2_5 + (1 : Int32))), (0, .ref (d 0)), (1, .int x1)]) hx hb d_M_lying_28 hl (k := 1) rfl rfl (by decide) rfl (fun ls hl => ?_)
          refine lv_goto (tgt := 4) hx hb d_M_lying_31 (by decide) ?_
          exact ih_4 (x2_5 + (1 : Int32)) (x3_4 + 1) _ hw (lv_sub hl [0, 1, 2, 3] rfl)
  exact key_4 n_4 (0 : Int32) (0 : Int32) _ hw (lv_sub hl [0, 1, 2, 3] rfl)
def p_M_sum_L4_B (v1 : Int32) (m_on : Nat → Int32) (m_counts : Nat → Int32) (K_4 : Int32 → Int32 → Prop) (rec_4 : Int32 → Int32 → Prop) (x2_4 : Int32) (x3_4 : Int32) : Prop := (((20 : Int32) ≤ x3_4 → K_4 x2_4 x3_4) ∧ (¬ (20 : Int32) ≤ x3_4 → (vp_in x3_4 20 ∧ ((¬ (m_on (x3_4).toNatClampNeg) = v1 → rec_4 (x2_4 + (0 : Int32)) (x3_4 + 1)) ∧ ((m_on (x3_4).toNatClampNeg) = v1 → (vp_in x3_4 20 ∧ rec_4 (x2_4 + (m_counts (x3_4).toNatClampNeg)) (x3_4 + 1)))))))
def p_M_sum_L4 (v1 : Int32) (m_on : Nat → Int32) (m_counts : Nat → Int32) (K_4 : Int32 → Int32 → Prop) : Nat → Int32 → Int32 → Prop
  | 0 => fun _ _ => False
  | n + 1 => p_M_sum_L4_B v1 m_on m_counts K_4 (p_M_sum_L4 v1 m_on m_counts K_4 n)
def p_M_sum (x1 : Int32) (m_on : Nat → Int32) (m_counts : Nat → Int32) (post : Int32 → Prop) : Prop := (∃ n, p_M_sum_L4 x1 m_on m_counts (fun (k_11 : Int32) (k_12 : Int32) => post k_11) n (0 : Int32) (0 : Int32))
abbrev rm_M_sum : Room := { frames := 1, cells := 0, slots := 0, locals := 40 }
set_option maxHeartbeats 4000000 in
set_option maxRecDepth 100000 in
theorem c_M_sum {l : Launch} {D : va_G} {sa : Nat → Nat} {cI cZ : ClassId} {sz : Nat} {d : Nat → Nat} {m_thrownCode : Int32} {m_places : Int32} {m_front : Int32} {m_turns : Int32} {m_fetched : Int32} {m_listed : Int32} {m_planned : Int32} {m_wasExact : Int32} {m_shelves : Int32} {m_placeOf : Nat → Int32} {m_blockedShelf : Nat → Int32} {m_on : Nat → Int32} {m_counts : Nat → Int32} {m_doors : Nat → Int32} {m_list : Nat → Int32} {m_plan : Nat → Int32} {m_shelf : Nat → Int32} {m_trial : Nat → Int32} {x1 : Int32} {post : Int32 → Prop} (hw : p_M_sum x1 m_on m_counts post) : Met l y_M_sum w_M_sum rm_M_sum (va_Pc [.ref (d 0), .int x1] (kP D sa [(cI, .int), (cZ, .boolean)] (mW d cI cZ m_thrownCode m_places m_front m_turns m_fetched m_listed m_planned m_wasExact m_shelves m_placeOf m_blockedShelf m_on m_counts m_doors m_list m_plan m_shelf m_trial) sz)) (vp_Si post) 0 0 (fun _ => False) := by
  refine Met.ofW (cc := b_M_sum) (maxL := 4) (ret := (some .int)) (by decide) rfl ?_
  intro p e s m args below meth c s₁ B hml hv
  obtain ⟨rfl, hsz, hP, hK, hD0, hZ⟩ := hv
  have hx := B.exec
  have hb := B.bytes
  have hr := B.returns
  have hts := atoms_spec (ws := w_M_sum) B.pre
  have hown : s.vm.findClass R_M = some m.cls := findClass_of_methodNamed B.named
  have hlocks := B.notSynchronized
  subst hsz
  have hD := hD0.self (sz := s.heap.size)
  generalize hAe : (va_A (mW d cI cZ m_thrownCode m_places m_front m_turns m_fetched m_listed m_planned m_wasExact m_shelves m_placeOf m_blockedShelf m_on m_counts m_doors m_list m_plan m_shelf m_trial) s.heap.size) = A at hD hZ
  have hA : ∀ q : Nat, s.heap.size ≤ q → A q := fun q h => by rw [← hAe]; exact Or.inr h
  have hS : va_S A s.heap s.heap [] := va_S.rf
  have hl := lv_entry ([.ref (d 0), .int x1]) (n := 4) (Nat.le_of_ble_eq_true rfl)
  rw [lg_entry_eq]
  generalize (lg_sl ([.ref (d 0), .int x1]) ++ List.replicate (4 - (lg_sl ([.ref (d 0), .int x1])).length) Slot.unset).toArray = ls at hl ⊢
  have hl : lv_has ls 4 [(0, .ref (d 0)), (1, .int x1)] := hl
  refine lv_iconst (v := (0 : Int32)) hx hb d_M_sum_0 (by decide) ?_
  refine lv_istore_n (lv' := [(2, .int (0 : Int32)), (0, .ref (d 0)), (1, .int x1)]) hx hb d_M_sum_1 rfl hl (by decide) rfl (fun ls hl => ?_)
  refine lv_iconst (v := (0 : Int32)) hx hb d_M_sum_2 (by decide) ?_
  refine lv_istore_n (lv' := [(3, .int (0 : Int32)), (2, .int (0 : Int32)), (0, .ref (d 0)), (1, .int x1)]) hx hb d_M_sum_3 rfl hl (by decide) rfl (fun ls hl => ?_)
  obtain ⟨K_4, hK_4⟩ : ∃ z : Int32 → Int32 → Prop, z = (fun (k_11 : Int32) (k_12 : Int32) => post k_11) := ⟨_, rfl⟩
  have hw : ∃ n, p_M_sum_L4 x1 m_on m_counts K_4 n (0 : Int32) (0 : Int32) := by rw [hK_4]; exact hw
  obtain ⟨n_4, hw⟩ := hw
  have key_4 : ∀ (n : Nat) (x2_6 : Int32) (x3_5 : Int32) (ls : Array Slot), p_M_sum_L4 x1 m_on m_counts K_4 n x2_6 x3_5 → lv_has ls 4 [(3, .int x3_5), (2, .int x2_6), (0, .ref (d 0)), (1, .int x1)] → W p l e (headSpec w_M_sum rm_M_sum).room s m ([.ref (d 0), .int x1] : List Value).toArray below meth c s.heap [] 0 0 (MQ below (vp_Si post) ([.ref (d 0), .int x1] : List Value).toArray s 0 0 (fun _ => False)) (F0 m 4 ls []) := by
    intro n
    induction n with
    | zero => intro x2_6 x3_5 ls hw hl; exact hw.elim
    | succ n ih_4 =>
      intro x2_6 x3_5 ls hw hl
      have hw : p_M_sum_L4_B x1 m_on m_counts K_4 (p_M_sum_L4 x1 m_on m_counts K_4 n) x2_6 x3_5 := hw
      generalize p_M_sum_L4 x1 m_on m_counts K_4 n = rec_4 at hw ih_4
      refine lv_iload_n hx hb d_M_sum_4 rfl (lv_at hl 0 rfl) ?_
      refine lv_bipush (v := (20 : Int32)) hx hb d_M_sum_5 (by decide) ?_
      refine lv_icmp_ge (tgt := 39) hx hb d_M_sum_7 (by decide) (fun c_7 => ?_) (fun c_7 => ?_)
      · have hw := hw.1 c_7
        rw [hK_4] at hw
        have hl : lv_has ls 4 [(3, .int x3_5), (2, .int x2_6), (0, .ref (d 0)), (1, .int x1)] := lv_sub hl [0, 1, 2, 3] rfl
        refine lv_iload_n hx hb d_M_sum_39 rfl (lv_at hl 1 rfl) ?_
        exact W.iret (v := x2_6) hx hb hr (fun t ht _ => ⟨x2_6, rfl, hw, ht⟩) (by simp) d_M_sum_40
      · have hw := hw.2 c_7
        refine lv_iload_n hx hb d_M_sum_10 rfl (lv_at hl 1 rfl) ?_
        refine lv_aload_n hx hb d_M_sum_11 rfl (lv_at hl 2 rfl) ?_
        refine va_get (D := D) (ci := 2) (v := .ref (d 3)) (C := R_M) (T := F_M) (N := 18) hx hb hts (iK iW_M) hown hK hP 0 rfl rfl 5 (by decide) (hts _ (kM kw_7ca6b28c)) (fun _ h9 => h9) rfl d_M_sum_12 ?_
        refine lv_iload_n hx hb d_M_sum_15 rfl (lv_at hl 0 rfl) ?_
        obtain ⟨h_8, hw⟩ := hw
        refine va_iald hx hb hK hP 3 0 rfl rfl h_8 d_M_sum_16 ?_
        refine lv_iload_n hx hb d_M_sum_17 rfl (lv_at hl 3 rfl) ?_
        refine lv_icmp_ne (tgt := 30) hx hb d_M_sum_18 (by decide) (fun c_9 => ?_) (fun c_9 => ?_)
        · have hw := hw.1 c_9
          refine lv_iconst (v := (0 : Int32)) hx hb d_M_sum_30 (by decide) ?_
          refine lv_iadd hx hb d_M_sum_31 ?_
          refine lv_istore_n (lv' := [(2, .int (x2_6 + (0 : Int32))), (3, .int x3_5), (0, .ref (d 0)), (1, .int x1)]) hx hb d_M_sum_32 rfl hl (by decide) rfl (fun ls hl => ?_)
          refine lv_iinc (v := (x3_5 + 1)) (lv' := [(3, .int (x3_5 + 1)), (2, .int (x2_6 + (0 : Int32))), (0, .ref (d 0)), (1, .int x1)]) hx hb d_M_sum_33 hl (k := 1) rfl rfl (by decide) rfl (fun ls hl => ?_)
          refine lv_goto (tgt := 4) hx hb d_M_sum_36 (by decide) ?_
          exact ih_4 (x2_6 + (0 : Int32)) (x3_5 + 1) _ hw (lv_sub hl [0, 1, 2, 3] rfl)
        · have hw := hw.2 c_9
          refine lv_aload_n hx hb d_M_sum_21 rfl (lv_at hl 2 rfl) ?_
          refine va_get (D := D) (ci := 2) (v := .ref (d 4)) (C := R_M) (T := F_M) (N := 18) hx hb hts (iK iW_M) hown hK hP 0 rfl rfl 6 (by decide) (hts _ (kM kw_0595da16)) (fun _ h9 => h9) rfl d_M_sum_22 ?_
          refine lv_iload_n hx hb d_M_sum_25 rfl (lv_at hl 0 rfl) ?_
          obtain ⟨h_10, hw⟩ := hw
          refine va_iald hx hb hK hP 4 0 rfl rfl h_10 d_M_sum_26 ?_
          refine lv_goto (tgt := 31) hx hb d_M_sum_27 (by decide) ?_
          refine lv_iadd hx hb d_M_sum_31 ?_
          refine lv_istore_n (lv' := [(2, .int (x2_6 + (m_counts (x3_5).toNatClampNeg))), (3, .int x3_5), (0, .ref (d 0)), (1, .int x1)]) hx hb d_M_sum_32 rfl hl (by decide) rfl (fun ls hl => ?_)
          refine lv_iinc (v := (x3_5 + 1)) (lv' := [(3, .int (x3_5 + 1)), (2, .int (x2_6 + (m_counts (x3_5).toNatClampNeg))), (0, .ref (d 0)), (1, .int x1)]) hx hb d_M_sum_33 hl (k := 1) rfl rfl (by decide) rfl (fun ls hl => ?_)
          refine lv_goto (tgt := 4) hx hb d_M_sum_36 (by decide) ?_
          exact ih_4 (x2_6 + (m_counts (x3_5).toNatClampNeg)) (x3_5 + 1) _ hw (lv_sub hl [0, 1, 2, 3] rfl)
  exact key_4 n_4 (0 : Int32) (0 : Int32) _ hw (lv_sub hl [0, 1, 2, 3] rfl)
def p_M_anyDoor (m_doors : Nat → Int32) (post : Int32 → Prop) : Prop := (vp_in (0 : Int32) 2 ∧ ((¬ (m_doors ((0 : Int32)).toNatClampNeg) = 0 → post (1 : Int32)) ∧ ((m_doors ((0 : Int32)).toNatClampNeg) = 0 → (vp_in (1 : Int32) 2 ∧ (((m_doors ((1 : Int32)).toNatClampNeg) = 0 → post (0 : Int32)) ∧ (¬ (m_doors ((1 : Int32)).toNatClampNeg) = 0 → post (1 : Int32)))))))
abbrev rm_M_anyDoor : Room := { frames := 1, cells := 0, slots := 0, locals := 40 }
set_option maxHeartbeats 4000000 in
set_option maxRecDepth 100000 in
theorem c_M_anyDoor {l : Launch} {D : va_G} {sa : Nat → Nat} {cI cZ : ClassId} {sz : Nat} {d : Nat → Nat} {m_thrownCode : Int32} {m_places : Int32} {m_front : Int32} {m_turns : Int32} {m_fetched : Int32} {m_listed : Int32} {m_planned : Int32} {m_wasExact : Int32} {m_shelves : Int32} {m_placeOf : Nat → Int32} {m_blockedShelf : Nat → Int32} {m_on : Nat → Int32} {m_counts : Nat → Int32} {m_doors : Nat → Int32} {m_list : Nat → Int32} {m_plan : Nat → Int32} {m_shelf : Nat → Int32} {m_trial : Nat → Int32} {post : Int32 → Prop} (hw : p_M_anyDoor m_doors post) : Met l y_M_anyDoor w_M_anyDoor rm_M_anyDoor (va_Pc [.ref (d 0)] (kP D sa [(cI, .int), (cZ, .boolean)] (mW d cI cZ m_thrownCode m_places m_front m_turns m_fetched m_listed m_planned m_wasExact m_shelves m_placeOf m_blockedShelf m_on m_counts m_doors m_list m_plan m_shelf m_trial) sz)) (vp_Si post) 0 0 (fun _ => False) := by
  refine Met.ofW (cc := b_M_anyDoor) (maxL := 1) (ret := (some .boolean)) (by decide) rfl ?_
  intro p e s m args below meth c s₁ B hml hv
  obtain ⟨rfl, hsz, hP, hK, hD0, hZ⟩ := hv
  have hx := B.exec
  have hb := B.bytes
  have hr := B.returns
  have hts := atoms_spec (ws := w_M_anyDoor) B.pre
  have hown : s.vm.findClass R_M = some m.cls := findClass_of_methodNamed B.named
  have hlocks := B.notSynchronized
  subst hsz
  have hD := hD0.self (sz := s.heap.size)
  generalize hAe : (va_A (mW d cI cZ m_thrownCode m_places m_front m_turns m_fetched m_listed m_planned m_wasExact m_shelves m_placeOf m_blockedShelf m_on m_counts m_doors m_list m_plan m_shelf m_trial) s.heap.size) = A at hD hZ
  have hA : ∀ q : Nat, s.heap.size ≤ q → A q := fun q h => by rw [← hAe]; exact Or.inr h
  have hS : va_S A s.heap s.heap [] := va_S.rf
  have hl := lv_entry ([.ref (d 0)]) (n := 1) (Nat.le_of_ble_eq_true rfl)
  rw [lg_entry_eq]
  generalize (lg_sl ([.ref (d 0)]) ++ List.replicate (1 - (lg_sl ([.ref (d 0)])).length) Slot.unset).toArray = ls at hl ⊢
  have hl : lv_has ls 1 [(0, .ref (d 0))] := hl
  refine lv_aload_n hx hb d_M_anyDoor_0 rfl (lv_at hl 0 rfl) ?_
  refine va_get (D := D) (ci := 2) (v := .ref (d 5)) (C := R_M) (T := F_M) (N := 18) hx hb hts (iK iW_M) hown hK hP 0 rfl rfl 7 (by decide) (hts _ (kM kw_e8c36500)) (fun _ h9 => h9) rfl d_M_anyDoor_1 ?_
  refine lv_iconst (v := (0 : Int32)) hx hb d_M_anyDoor_4 (by decide) ?_
  obtain ⟨h_1, hw⟩ := hw
  refine va_zald hx hb hK hP 5 1 rfl rfl h_1 d_M_anyDoor_5 ?_
  refine lv_if_ne (tgt := 18) hx hb d_M_anyDoor_6 (by decide) (fun c_2 => ?_) (fun c_2 => ?_)
  · have hw := hw.1 c_2
    refine lv_iconst (v := (1 : Int32)) hx hb d_M_anyDoor_18 (by decide) ?_
    refine lv_goto (tgt := 23) hx hb d_M_anyDoor_19 (by decide) ?_
    exact W.zret (v := (1 : Int32)) (ty := .boolean) hx hb hr rfl (fun t ht _ => ⟨(1 : Int32), rfl, hw, ht⟩) (by simp) d_M_anyDoor_23
  · have hw := hw.2 c_2
    refine lv_aload_n hx hb d_M_anyDoor_9 rfl (lv_at hl 0 rfl) ?_
    refine va_get (D := D) (ci := 2) (v := .ref (d 5)) (C := R_M) (T := F_M) (N := 18) hx hb hts (iK iW_M) hown hK hP 0 rfl rfl 7 (by decide) (hts _ (kM kw_e8c36500)) (fun _ h9 => h9) rfl d_M_anyDoor_10 ?_
    refine lv_iconst (v := (1 : Int32)) hx hb d_M_anyDoor_13 (by decide) ?_
    obtain ⟨h_3, hw⟩ := hw
    refine va_zald hx hb hK hP 5 1 rfl rfl h_3 d_M_anyDoor_14 ?_
    refine lv_if_eq (tgt := 22) hx hb d_M_anyDoor_15 (by decide) (fun c_4 => ?_) (fun c_4 => ?_)
    · have hw := hw.1 c_4
      refine lv_iconst (v := (0 : Int32)) hx hb d_M_anyDoor_22 (by decide) ?_
      exact W.zret (v := (0 : Int32)) (ty := .boolean) hx hb hr rfl (fun t ht _ => ⟨(0 : Int32), rfl, hw, ht⟩) (by simp) d_M_anyDoor_23
    · have hw := hw.2 c_4
      refine lv_iconst (v := (1 : Int32)) hx hb d_M_anyDoor_18 (by decide) ?_
      refine lv_goto (tgt := 23) hx hb d_M_anyDoor_19 (by decide) ?_
      exact W.zret (v := (1 : Int32)) (ty := .boolean) hx hb hr rfl (fun t ht _ => ⟨(1 : Int32), rfl, hw, ht⟩) (by simp) d_M_anyDoor_23
def p_M_findShelves_L7_B (m_listed : Int32) (m_shelves : Int32) (m_blockedShelf : Nat → Int32) (m_on : Nat → Int32) (m_list : Nat → Int32) (m_shelf : Nat → Int32) (post : Int32 → Int32 → (Nat → Int32) → Prop) (K_7 : Int32 → Prop) (rec_7 : Int32 → Prop) (x1_7 : Int32) : Prop := ((m_listed ≤ x1_7 → K_7 x1_7) ∧ (¬ m_listed ≤ x1_7 → (vp_in x1_7 8 ∧ (vp_in (m_list (x1_7).toNatClampNeg) 20 ∧ (((m_on ((m_list (x1_7).toNatClampNeg)).toNatClampNeg) < 0 → post (0 : Int32) m_shelves m_shelf) ∧ (¬ (m_on ((m_list (x1_7).toNatClampNeg)).toNatClampNeg) < 0 → (vp_in x1_7 8 ∧ (vp_in (m_list (x1_7).toNatClampNeg) 20 ∧ (vp_in (m_on ((m_list (x1_7).toNatClampNeg)).toNatClampNeg) 24 ∧ (((m_blockedShelf ((m_on ((m_list (x1_7).toNatClampNeg)).toNatClampNeg)).toNatClampNeg) = 0 → rec_7 (x1_7 + 1)) ∧ (¬ (m_blockedShelf ((m_on ((m_list (x1_7).toNatClampNeg)).toNatClampNeg)).toNatClampNeg) = 0 → post (0 : Int32) m_shelves m_shelf)))))))))))
def p_M_findShelves_L7 (m_listed : Int32) (m_shelves : Int32) (m_blockedShelf : Nat → Int32) (m_on : Nat → Int32) (m_list : Nat → Int32) (m_shelf : Nat → Int32) (post : Int32 → Int32 → (Nat → Int32) → Prop) (K_7 : Int32 → Prop) : Nat → Int32 → Prop
  | 0 => fun _ => False
  | n + 1 => p_M_findShelves_L7_B m_listed m_shelves m_blockedShelf m_on m_list m_shelf post K_7 (p_M_findShelves_L7 m_listed m_shelves m_blockedShelf m_on m_list m_shelf post K_7 n)
def p_M_findShelves_L70_B (v1 : Int32) (m_listed : Int32) (m_on : Nat → Int32) (m_list : Nat → Int32) (K_70 : Int32 → Int32 → Prop) (rec_70 : Int32 → Int32 → Prop) (x2_70 : Int32) (x3_70 : Int32) : Prop := ((m_listed ≤ x3_70 → K_70 x2_70 x3_70) ∧ (¬ m_listed ≤ x3_70 → ((¬ x2_70 = 0 → rec_70 (1 : Int32) (x3_70 + 1)) ∧ (x2_70 = 0 → (vp_in x3_70 8 ∧ (vp_in (m_list (x3_70).toNatClampNeg) 20 ∧ ((¬ (m_on ((m_list (x3_70).toNatClampNeg)).toNatClampNeg) = v1 → rec_70 (0 : Int32) (x3_70 + 1)) ∧ ((m_on ((m_list (x3_70).toNatClampNeg)).toNatClampNeg) = v1 → rec_70 (1 : Int32) (x3_70 + 1)))))))))
def p_M_findShelves_L70 (v1 : Int32) (m_listed : Int32) (m_on : Nat → Int32) (m_list : Nat → Int32) (K_70 : Int32 → Int32 → Prop) : Nat → Int32 → Int32 → Prop
  | 0 => fun _ _ => False
  | n + 1 => p_M_findShelves_L70_B v1 m_listed m_on m_list K_70 (p_M_findShelves_L70 v1 m_listed m_on m_list K_70 n)
def p_M_findShelves_L58_B (m_places : Int32) (m_listed : Int32) (m_on : Nat → Int32) (m_list : Nat → Int32) (K_58 : Int32 → Int32 → (Nat → Int32) → Prop) (rec_58 : Int32 → Int32 → (Nat → Int32) → Prop) (x1_58 : Int32) (m_shelves_58 : Int32) (m_shelf_58 : Nat → Int32) : Prop := ((m_places ≤ x1_58 → K_58 x1_58 m_shelves_58 m_shelf_58) ∧ (¬ m_places ≤ x1_58 → (∃ n, p_M_findShelves_L70 x1_58 m_listed m_on m_list (fun (k_32 : Int32) (k_33 : Int32) => ((k_32 = 0 → rec_58 (x1_58 + 1) m_shelves_58 m_shelf_58) ∧ (¬ k_32 = 0 → (vp_in m_shelves_58 8 ∧ rec_58 (x1_58 + 1) (m_shelves_58 + (1 : Int32)) (upd m_shelf_58 (m_shelves_58).toNatClampNeg x1_58))))) n (0 : Int32) (0 : Int32))))
def p_M_findShelves_L58 (m_places : Int32) (m_listed : Int32) (m_on : Nat → Int32) (m_list : Nat → Int32) (K_58 : Int32 → Int32 → (Nat → Int32) → Prop) : Nat → Int32 → Int32 → (Nat → Int32) → Prop
  | 0 => fun _ _ _ => False
  | n + 1 => p_M_findShelves_L58_B m_places m_listed m_on m_list K_58 (p_M_findShelves_L58 m_places m_listed m_on m_list K_58 n)
def p_M_findShelves (m_places : Int32) (m_listed : Int32) (m_blockedShelf : Nat → Int32) (m_on : Nat → Int32) (m_list : Nat → Int32) (m_shelf : Nat → Int32) (post : Int32 → Int32 → (Nat → Int32) → Prop) : Prop := (∃ n, p_M_findShelves_L7 m_listed (0 : Int32) m_blockedShelf m_on m_list m_shelf post (fun (k_18 : Int32) => (∃ n, p_M_findShelves_L58 m_places m_listed m_on m_list (fun (k_51 : Int32) (k_52 : Int32) (k_53 : Nat → Int32) => post (1 : Int32) k_52 k_53) n (0 : Int32) (0 : Int32) m_shelf)) n (0 : Int32))
abbrev rm_M_findShelves : Room := { frames := 1, cells := 0, slots := 0, locals := 40 }
set_option maxHeartbeats 4000000 in
set_option maxRecDepth 100000 in
theorem c_M_findShelves {l : Launch} {D : va_G} {sa : Nat → Nat} {cI cZ : ClassId} {sz : Nat} {d : Nat → Nat} {m_thrownCode : Int32} {m_places : Int32} {m_front : Int32} {m_turns : Int32} {m_fetched : Int32} {m_listed : Int32} {m_planned : Int32} {m_wasExact : Int32} {m_shelves : Int32} {m_placeOf : Nat → Int32} {m_blockedShelf : Nat → Int32} {m_on : Nat → Int32} {m_counts : Nat → Int32} {m_doors : Nat → Int32} {m_list : Nat → Int32} {m_plan : Nat → Int32} {m_shelf : Nat → Int32} {m_trial : Nat → Int32} {post : Int32 → Int32 → (Nat → Int32) → Prop} (hw : p_M_findShelves m_places m_listed m_blockedShelf m_on m_list m_shelf post) : Met l y_M_findShelves w_M_findShelves rm_M_findShelves (va_Pc [.ref (d 0)] (kP D sa [(cI, .int), (cZ, .boolean)] (mW d cI cZ m_thrownCode m_places m_front m_turns m_fetched m_listed m_planned m_wasExact m_shelves m_placeOf m_blockedShelf m_on m_counts m_doors m_list m_plan m_shelf m_trial) sz)) (va_Qi (fun r (u : Int32 × (Nat → Int32)) => post r u.1 u.2) (fun (u : Int32 × (Nat → Int32)) t => va_P D classes (mW d cI cZ m_thrownCode m_places m_front m_turns m_fetched m_listed m_planned m_wasExact u.1 m_placeOf m_blockedShelf m_on m_counts m_doors m_list m_plan u.2 m_trial) t.heap ∧ va_K D classes [(cI, .int), (cZ, .boolean)] t ∧ va_D (va_A (mW d cI cZ m_thrownCode m_places m_front m_turns m_fetched m_listed m_planned m_wasExact m_shelves m_placeOf m_blockedShelf m_on m_counts m_doors m_list m_plan m_shelf m_trial) sz) (mW d cI cZ m_thrownCode m_places m_front m_turns m_fetched m_listed m_planned m_wasExact u.1 m_placeOf m_blockedShelf m_on m_counts m_doors m_list m_plan u.2 m_trial)) (va_A (mW d cI cZ m_thrownCode m_places m_front m_turns m_fetched m_listed m_planned m_wasExact m_shelves m_placeOf m_blockedShelf m_on m_counts m_doors m_list m_plan m_shelf m_trial) sz)) 0 0 (va_A (mW d cI cZ m_thrownCode m_places m_front m_turns m_fetched m_listed m_planned m_wasExact m_shelves m_placeOf m_blockedShelf m_on m_counts m_doors m_list m_plan m_shelf m_trial) sz) := by
  refine Met.ofW (cc := b_M_findShelves) (maxL := 4) (ret := (some .boolean)) (by decide) rfl ?_
  intro p e s m args below meth c s₁ B hml hv
  obtain ⟨rfl, hsz, hP, hK, hD0, hZ⟩ := hv
  have hx := B.exec
  have hb := B.bytes
  have hr := B.returns
  have hts := atoms_spec (ws := w_M_findShelves) B.pre
  have hown : s.vm.findClass R_M = some m.cls := findClass_of_methodNamed B.named
  have hlocks := B.notSynchronized
  subst hsz
  have hD := hD0.self (sz := s.heap.size)
  generalize hAe : (va_A (mW d cI cZ m_thrownCode m_places m_front m_turns m_fetched m_listed m_planned m_wasExact m_shelves m_placeOf m_blockedShelf m_on m_counts m_doors m_list m_plan m_shelf m_trial) s.heap.size) = A at hD hZ ⊢
  have hA : ∀ q : Nat, s.heap.size ≤ q → A q := fun q h => by rw [← hAe]; exact Or.inr h
  have hS : va_S A s.heap s.heap [] := va_S.rf
  have hl := lv_entry ([.ref (d 0)]) (n := 4) (Nat.le_of_ble_eq_true rfl)
  rw [lg_entry_eq]
  generalize (lg_sl ([.ref (d 0)]) ++ List.replicate (4 - (lg_sl ([.ref (d 0)])).length) Slot.unset).toArray = ls at hl ⊢
  have hl : lv_has ls 4 [(0, .ref (d 0))] := hl
  refine lv_aload_n hx hb d_M_findShelves_0 rfl (lv_at hl 0 rfl) ?_
  refine lv_iconst (v := (0 : Int32)) hx hb d_M_findShelves_1 (by decide) ?_
  refine va_put (D := D) (ci := 2) (v := .int (0 : Int32)) (ty := .int) (C := R_M) (T := F_M) (N := 18) hx hb hts (iK iW_M) t_M t_M_ok n_M hown hK hP hD hS 0 rfl rfl 15 (by decide) (hts _ (kM kw_545b2532)) (fun _ h9 => h9) rfl (by decide +kernel) rfl rfl (Nat.le_of_ble_eq_true rfl) d_M_findShelves_2 (fun H locs hP hD hS => ?_)
  have hP : va_P D classes (mW d cI cZ m_thrownCode m_places m_front m_turns m_fetched m_listed m_planned m_wasExact (0 : Int32) m_placeOf m_blockedShelf m_on m_counts m_doors m_list m_plan m_shelf m_trial) H := hP
  have hD : va_D A (mW d cI cZ m_thrownCode m_places m_front m_turns m_fetched m_listed m_planned m_wasExact (0 : Int32) m_placeOf m_blockedShelf m_on m_counts m_doors m_list m_plan m_shelf m_trial) := hD
  refine lv_iconst (v := (0 : Int32)) hx hb d_M_findShelves_5 (by decide) ?_
  refine lv_istore_n (lv' := [(1, .int (0 : Int32)), (0, .ref (d 0))]) hx hb d_M_findShelves_6 rfl hl (by decide) rfl (fun ls hl => ?_)
  obtain ⟨K_7, hK_7⟩ : ∃ z : Int32 → Prop, z = (fun (k_18 : Int32) => (∃ n, p_M_findShelves_L58 m_places m_listed m_on m_list (fun (k_51 : Int32) (k_52 : Int32) (k_53 : Nat → Int32) => post (1 : Int32) k_52 k_53) n (0 : Int32) (0 : Int32) m_shelf)) := ⟨_, rfl⟩
  have hw : ∃ n, p_M_findShelves_L7 m_listed (0 : Int32) m_blockedShelf m_on m_list m_shelf post K_7 n (0 : Int32) := by rw [hK_7]; exact hw
  obtain ⟨n_7, hw⟩ := hw
  have key_7 : ∀ (n : Nat) (x1_9 : Int32) (ls : Array Slot), p_M_findShelves_L7 m_listed (0 : Int32) m_blockedShelf m_on m_list m_shelf post K_7 n x1_9 → lv_has ls 4 [(1, .int x1_9), (0, .ref (d 0))] → W p l e (headSpec w_M_findShelves rm_M_findShelves).room s m ([.ref (d 0)] : List Value).toArray below meth c H locs 0 0 (MQ below (va_Qi (fun r (u : Int32 × (Nat → Int32)) => post r u.1 u.2) (fun (u : Int32 × (Nat → Int32)) t => va_P D classes (mW d cI cZ m_thrownCode m_places m_front m_turns m_fetched m_listed m_planned m_wasExact u.1 m_placeOf m_blockedShelf m_on m_counts m_doors m_list m_plan u.2 m_trial) t.heap ∧ va_K D classes [(cI, .int), (cZ, .boolean)] t ∧ va_D A (mW d cI cZ m_thrownCode m_places m_front m_turns m_fetched m_listed m_planned m_wasExact u.1 m_placeOf m_blockedShelf m_on m_counts m_doors m_list m_plan u.2 m_trial)) A) ([.ref (d 0)] : List Value).toArray s 0 0 A) (F0 m 7 ls []) := by
    intro n
    induction n with
    | zero => intro x1_9 ls hw hl; exact hw.elim
    | succ n ih_7 =>
      intro x1_9 ls hw hl
      have hw : p_M_findShelves_L7_B m_listed (0 : Int32) m_blockedShelf m_on m_list m_shelf post K_7 (p_M_findShelves_L7 m_listed (0 : Int32) m_blockedShelf m_on m_list m_shelf post K_7 n) x1_9 := hw
      generalize p_M_findShelves_L7 m_listed (0 : Int32) m_blockedShelf m_on m_list m_shelf post K_7 n = rec_7 at hw ih_7
      refine lv_iload_n hx hb d_M_findShelves_7 rfl (lv_at hl 0 rfl) ?_
      refine lv_aload_n hx hb d_M_findShelves_8 rfl (lv_at hl 1 rfl) ?_
      refine va_get (D := D) (ci := 2) (v := .int m_listed) (C := R_M) (T := F_M) (N := 18) hx hb hts (iK iW_M) hown hK hP 0 rfl rfl 10 (by decide) (hts _ (kM kw_e21e5c24)) (fun _ h9 => h9) rfl d_M_findShelves_9 ?_
      refine lv_icmp_ge (tgt := 56) hx hb d_M_findShelves_12 (by decide) (fun c_10 => ?_) (fun c_10 => ?_)
      · have hw := hw.1 c_10
        rw [hK_7] at hw
        have hl : lv_has ls 4 [(1, .int x1_9), (0, .ref (d 0))] := lv_sub hl [0, 1] rfl
        refine lv_iconst (v := (0 : Int32)) hx hb d_M_findShelves_56 (by decide) ?_
        refine lv_istore_n (lv' := [(1, .int (0 : Int32)), (0, .ref (d 0))]) hx hb d_M_findShelves_57 rfl hl (by decide) rfl (fun ls hl => ?_)
        obtain ⟨K_58, hK_58⟩ : ∃ z : Int32 → Int32 → (Nat → Int32) → Prop, z = (fun (k_51 : Int32) (k_52 : Int32) (k_53 : Nat → Int32) => post (1 : Int32) k_52 k_53) := ⟨_, rfl⟩
        have hw : ∃ n, p_M_findShelves_L58 m_places m_listed m_on m_list K_58 n (0 : Int32) (0 : Int32) m_shelf := by rw [hK_58]; exact hw
        obtain ⟨n_58, hw⟩ := hw
        have key_58 : ∀ (n : Nat) (x1_36 : Int32) (m_shelves_37 : Int32) (m_shelf_38 : Nat → Int32) (H : Heap) (locs : List Loc) (ls : Array Slot), p_M_findShelves_L58 m_places m_listed m_on m_list K_58 n x1_36 m_shelves_37 m_shelf_38 → va_P D classes (mW d cI cZ m_thrownCode m_places m_front m_turns m_fetched m_listed m_planned m_wasExact m_shelves_37 m_placeOf m_blockedShelf m_on m_counts m_doors m_list m_plan m_shelf_38 m_trial) H → va_D A (mW d cI cZ m_thrownCode m_places m_front m_turns m_fetched m_listed m_planned m_wasExact m_shelves_37 m_placeOf m_blockedShelf m_on m_counts m_doors m_list m_plan m_shelf_38 m_trial) → va_S A s.heap H locs → lv_has ls 4 [(1, .int x1_36), (0, .ref (d 0))] → W p l e (headSpec w_M_findShelves rm_M_findShelves).room s m ([.ref (d 0)] : List Value).toArray below meth c H locs 0 0 (MQ below (va_Qi (fun r (u : Int32 × (Nat → Int32)) => post r u.1 u.2) (fun (u : Int32 × (Nat → Int32)) t => va_P D classes (mW d cI cZ m_thrownCode m_places m_front m_turns m_fetched m_listed m_planned m_wasExact u.1 m_placeOf m_blockedShelf m_on m_counts m_doors m_list m_plan u.2 m_trial) t.heap ∧ va_K D classes [(cI, .int), (cZ, .boolean)] t ∧ va_D A (mW d cI cZ m_thrownCode m_places m_front m_turns m_fetched m_listed m_planned m_wasExact u.1 m_placeOf m_blockedShelf m_on m_counts m_doors m_list m_plan u.2 m_trial)) A) ([.ref (d 0)] : List Value).toArray s 0 0 A) (F0 m 58 ls []) := by
          intro n
          induction n with
          | zero => intro x1_36 m_shelves_37 m_shelf_38 H locs ls hw hP hD hS hl; exact hw.elim
          | succ n ih_58 =>
            intro x1_36 m_shelves_37 m_shelf_38 H locs ls hw hP hD hS hl
            have hw : p_M_findShelves_L58_B m_places m_listed m_on m_list K_58 (p_M_findShelves_L58 m_places m_listed m_on m_list K_58 n) x1_36 m_shelves_37 m_shelf_38 := hw
            generalize p_M_findShelves_L58 m_places m_listed m_on m_list K_58 n = rec_58 at hw ih_58
            refine lv_iload_n hx hb d_M_findShelves_58 rfl (lv_at hl 0 rfl) ?_
            refine lv_aload_n hx hb d_M_findShelves_59 rfl (lv_at hl 1 rfl) ?_
            refine va_get (D := D) (ci := 2) (v := .int m_places) (C := R_M) (T := F_M) (N := 18) hx hb hts (iK iW_M) hown hK hP 0 rfl rfl 1 (by decide) (hts _ (kM kw_7139d127)) (fun _ h9 => h9) rfl d_M_findShelves_60 ?_
            refine lv_icmp_ge (tgt := 139) hx hb d_M_findShelves_63 (by decide) (fun c_39 => ?_) (fun c_39 => ?_)
            · have hw := hw.1 c_39
              rw [hK_58] at hw
              have hl : lv_has ls 4 [(1, .int x1_36), (0, .ref (d 0))] := lv_sub hl [0, 1] rfl
              refine lv_iconst (v := (1 : Int32)) hx hb d_M_findShelves_139 (by decide) ?_
              exact W.zret (v := (1 : Int32)) (ty := .boolean) hx hb hr rfl (fun t ht hW => ⟨⟨(1 : Int32), (m_shelves_37, m_shelf_38), rfl, hw, by rw [ht]; exact hP, va_K.moved hW.alike hK, hD⟩, hS.F ht⟩) hS.2.2 d_M_findShelves_140
            · have hw := hw.2 c_39
              refine lv_iconst (v := (0 : Int32)) hx hb d_M_findShelves_66 (by decide) ?_
              refine lv_istore_n (lv' := [(2, .int (0 : Int32)), (1, .int x1_36), (0, .ref (d 0))]) hx hb d_M_findShelves_67 rfl hl (by decide) rfl (fun ls hl => ?_)
              refine lv_iconst (v := (0 : Int32)) hx hb d_M_findShelves_68 (by decide) ?_
              refine lv_istore_n (lv' := [(3, .int (0 : Int32)), (2, .int (0 : Int32)), (1, .int x1_36), (0, .ref (d 0))]) hx hb d_M_findShelves_69 rfl hl (by decide) rfl (fun ls hl => ?_)
              obtain ⟨K_70, hK_70⟩ : ∃ z : Int32 → Int32 → Prop, z = (fun (k_47 : Int32) (k_48 : Int32) => ((k_47 = 0 → rec_58 (x1_36 + 1) m_shelves_37 m_shelf_38) ∧ (¬ k_47 = 0 → (vp_in m_shelves_37 8 ∧ rec_58 (x1_36 + 1) (m_shelves_37 + (1 : Int32)) (upd m_shelf_38 (m_shelves_37).toNatClampNeg x1_36))))) := ⟨_, rfl⟩
              have hw : ∃ n, p_M_findShelves_L70 x1_36 m_listed m_on m_list K_70 n (0 : Int32) (0 : Int32) := by rw [hK_70]; exact hw
              obtain ⟨n_70, hw⟩ := hw
              have key_70 : ∀ (n : Nat) (x2_41 : Int32) (x3_40 : Int32) (ls : Array Slot), p_M_findShelves_L70 x1_36 m_listed m_on m_list K_70 n x2_41 x3_40 → lv_has ls 4 [(3, .int x3_40), (2, .int x2_41), (1, .int x1_36), (0, .ref (d 0))] → W p l e (headSpec w_M_findShelves rm_M_findShelves).room s m ([.ref (d 0)] : List Value).toArray below meth c H locs 0 0 (MQ below (va_Qi (fun r (u : Int32 × (Nat → Int32)) => post r u.1 u.2) (fun (u : Int32 × (Nat → Int32)) t => va_P D classes (mW d cI cZ m_thrownCode m_places m_front m_turns m_fetched m_listed m_planned m_wasExact u.1 m_placeOf m_blockedShelf m_on m_counts m_doors m_list m_plan u.2 m_trial) t.heap ∧ va_K D classes [(cI, .int), (cZ, .boolean)] t ∧ va_D A (mW d cI cZ m_thrownCode m_places m_front m_turns m_fetched m_listed m_planned m_wasExact u.1 m_placeOf m_blockedShelf m_on m_counts m_doors m_list m_plan u.2 m_trial)) A) ([.ref (d 0)] : List Value).toArray s 0 0 A) (F0 m 70 ls []) := by
                intro n
                induction n with
                | zero => intro x2_41 x3_40 ls hw hl; exact hw.elim
                | succ n ih_70 =>
                  intro x2_41 x3_40 ls hw hl
                  have hw : p_M_findShelves_L70_B x1_36 m_listed m_on m_list K_70 (p_M_findShelves_L70 x1_36 m_listed m_on m_list K_70 n) x2_41 x3_40 := hw
                  generalize p_M_findShelves_L70 x1_36 m_listed m_on m_list K_70 n = rec_70 at hw ih_70
                  refine lv_iload_n hx hb d_M_findShelves_70 rfl (lv_at hl 0 rfl) ?_
                  refine lv_aload_n hx hb d_M_findShelves_71 rfl (lv_at hl 3 rfl) ?_
                  refine va_get (D := D) (ci := 2) (v := .int m_listed) (C := R_M) (T := F_M) (N := 18) hx hb hts (iK iW_M) hown hK hP 0 rfl rfl 10 (by decide) (hts _ (kM kw_e21e5c24)) (fun _ h9 => h9) rfl d_M_findShelves_72 ?_
                  refine lv_icmp_ge (tgt := 109) hx hb d_M_findShelves_75 (by decide) (fun c_42 => ?_) (fun c_42 => ?_)
                  · have hw := hw.1 c_42
                    rw [hK_70] at hw
                    have hl : lv_has ls 4 [(3, .int x3_40), (2, .int x2_41), (1, .int x1_36), (0, .ref (d 0))] := lv_sub hl [0, 1, 2, 3] rfl
                    refine lv_iload_n hx hb d_M_findShelves_109 rfl (lv_at hl 1 rfl) ?_
                    refine lv_if_eq (tgt := 133) hx hb d_M_findShelves_110 (by decide) (fun c_49 => ?_) (fun c_49 => ?_)
                    · have hw := hw.1 c_49
                      refine lv_iinc (v := (x1_36 + 1)) (lv' := [(1, .int (x1_36 + 1)), (3, .int x3_40), (2, .int x2_41), (0, .ref (d 0))]) hx hb d_M_findShelves_133 hl (k := 2) rfl rfl (by decide) rfl (fun ls hl => ?_)
                      refine lv_goto (tgt := 58) hx hb d_M_findShelves_136 (by decide) ?_
                      exact ih_58 (x1_36 + 1) m_shelves_37 m_shelf_38 _ _ _ hw hP hD hS (lv_sub hl [0, 3] rfl)
                    · have hw := hw.2 c_49
                      refine lv_aload_n hx hb d_M_findShelves_113 rfl (lv_at hl 3 rfl) ?_
                      refine va_get (D := D) (ci := 2) (v := .ref (d 8)) (C := R_M) (T := F_M) (N := 18) hx hb hts (iK iW_M) hown hK hP 0 rfl rfl 16 (by decide) (hts _ (kM kw_97fc661c)) (fun _ h9 => h9) rfl d_M_findShelves_114 ?_
                      refine lv_aload_n hx hb d_M_findShelves_117 rfl (lv_at hl 3 rfl) ?_
                      refine va_get (D := D) (ci := 2) (v := .int m_shelves_37) (C := R_M) (T := F_M) (N := 18) hx hb hts (iK iW_M) hown hK hP 0 rfl rfl 15 (by decide) (hts _ (kM kw_545b2532)) (fun _ h9 => h9) rfl d_M_findShelves_118 ?_
                      refine lv_iload_n hx hb d_M_findShelves_121 rfl (lv_at hl 2 rfl) ?_
                      obtain ⟨h_50, hw⟩ := hw
                      refine va_iast hx hb hK hP hD hS 8 0 rfl rfl h_50 d_M_findShelves_122 (fun H locs hP hD hS => ?_)
                      have hP : va_P D classes (mW d cI cZ m_thrownCode m_places m_front m_turns m_fetched m_listed m_planned m_wasExact m_shelves_37 m_placeOf m_blockedShelf m_on m_counts m_doors m_list m_plan (upd m_shelf_38 (m_shelves_37).toNatClampNeg x1_36) m_trial) H := hP
                      have hD : va_D A (mW d cI cZ m_thrownCode m_places m_front m_turns m_fetched m_listed m_planned m_wasExact m_shelves_37 m_placeOf m_blockedShelf m_on m_counts m_doors m_list m_plan (upd m_shelf_38 (m_shelves_37).toNatClampNeg x1_36) m_trial) := hD
                      refine lv_aload_n hx hb d_M_findShelves_123 rfl (lv_at hl 3 rfl) ?_
                      refine lv_dup hx hb d_M_findShelves_124 rfl ?_
                      refine va_get (D := D) (ci := 2) (v := .int m_shelves_37) (C := R_M) (T := F_M) (N := 18) hx hb hts (iK iW_M) hown hK hP 0 rfl rfl 15 (by decide) (hts _ (kM kw_545b2532)) (fun _ h9 => h9) rfl d_M_findShelves_125 ?_
                      refine lv_iconst (v := (1 : Int32)) hx hb d_M_findShelves_128 (by decide) ?_
                      refine lv_iadd hx hb d_M_findShelves_129 ?_
                      refine va_put (D := D) (ci := 2) (v := .int (m_shelves_37 + (1 : Int32))) (ty := .int) (C := R_M) (T := F_M) (N := 18) hx hb hts (iK iW_M) t_M t_M_ok n_M hown hK hP hD hS 0 rfl rfl 15 (by decide) (hts _ (kM kw_545b2532)) (fun _ h9 => h9) rfl (by decide +kernel) rfl rfl (Nat.le_of_ble_eq_true rfl) d_M_findShelves_130 (fun H locs hP hD hS => ?_)
                      have hP : va_P D classes (mW d cI cZ m_thrownCode m_places m_front m_turns m_fetched m_listed m_planned m_wasExact (m_shelves_37 + (1 : Int32)) m_placeOf m_blockedShelf m_on m_counts m_doors m_list m_plan (upd m_shelf_38 (m_shelves_37).toNatClampNeg x1_36) m_trial) H := hP
                      have hD : va_D A (mW d cI cZ m_thrownCode m_places m_front m_turns m_fetched m_listed m_planned m_wasExact (m_shelves_37 + (1 : Int32)) m_placeOf m_blockedShelf m_on m_counts m_doors m_list m_plan (upd m_shelf_38 (m_shelves_37).toNatClampNeg x1_36) m_trial) := hD
                      refine lv_iinc (v := (x1_36 + 1)) (lv' := [(1, .int (x1_36 + 1)), (3, .int x3_40), (2, .int x2_41), (0, .ref (d 0))]) hx hb d_M_findShelves_133 hl (k := 2) rfl rfl (by decide) rfl (fun ls hl => ?_)
                      refine lv_goto (tgt := 58) hx hb d_M_findShelves_136 (by decide) ?_
                      exact ih_58 (x1_36 + 1) (m_shelves_37 + (1 : Int32)) (upd m_shelf_38 (m_shelves_37).toNatClampNeg x1_36) _ _ _ hw hP hD hS (lv_sub hl [0, 3] rfl)
                  · have hw := hw.2 c_42
                    refine lv_iload_n hx hb d_M_findShelves_78 rfl (lv_at hl 1 rfl) ?_
                    refine lv_if_ne (tgt := 97) hx hb d_M_findShelves_79 (by decide) (fun c_43 => ?_) (fun c_43 => ?_)
                    · have hw := hw.1 c_43
                      refine lv_iconst (v := (1 : Int32)) hx hb d_M_findShelves_97 (by decide) ?_
                      refine lv_goto (tgt := 102) hx hb d_M_findShelves_98 (by decide) ?_
                      refine lv_istore_n (lv' := [(2, .int (1 : Int32)), (3, .int x3_40), (1, .int x1_36), (0, .ref (d 0))]) hx hb d_M_findShelves_102 rfl hl (by decide) rfl (fun ls hl => ?_)
                      refine lv_iinc (v := (x3_40 + 1)) (lv' := [(3, .int (x3_40 + 1)), (2, .int (1 : Int32)), (1, .int x1_36), (0, .ref (d 0))]) hx hb d_M_findShelves_103 hl (k := 1) rfl rfl (by decide) rfl (fun ls hl => ?_)
                      refine lv_goto (tgt := 70) hx hb d_M_findShelves_106 (by decide) ?_
                      exact ih_70 (1 : Int32) (x3_40 + 1) _ hw (lv_sub hl [0, 1, 2, 3] rfl)
                    · have hw := hw.2 c_43
                      refine lv_aload_n hx hb d_M_findShelves_82 rfl (lv_at hl 3 rfl) ?_
                      refine va_get (D := D) (ci := 2) (v := .ref (d 3)) (C := R_M) (T := F_M) (N := 18) hx hb hts (iK iW_M) hown hK hP 0 rfl rfl 5 (by decide) (hts _ (kM kw_7ca6b28c)) (fun _ h9 => h9) rfl d_M_findShelves_83 ?_
                      refine lv_aload_n hx hb d_M_findShelves_86 rfl (lv_at hl 3 rfl) ?_
                      refine va_get (D := D) (ci := 2) (v := .ref (d 6)) (C := R_M) (T := F_M) (N := 18) hx hb hts (iK iW_M) hown hK hP 0 rfl rfl 11 (by decide) (hts _ (kM kw_0bf6b78c)) (fun _ h9 => h9) rfl d_M_findShelves_87 ?_
                      refine lv_iload_n hx hb d_M_findShelves_90 rfl (lv_at hl 0 rfl) ?_
                      obtain ⟨h_44, hw⟩ := hw
                      refine va_iald hx hb hK hP 6 0 rfl rfl h_44 d_M_findShelves_91 ?_
                      obtain ⟨h_45, hw⟩ := hw
                      refine va_iald hx hb hK hP 3 0 rfl rfl h_45 d_M_findShelves_92 ?_
                      refine lv_iload_n hx hb d_M_findShelves_93 rfl (lv_at hl 2 rfl) ?_
                      refine lv_icmp_ne (tgt := 101) hx hb d_M_findShelves_94 (by decide) (fun c_46 => ?_) (fun c_46 => ?_)
                      · have hw := hw.1 c_46
                        refine lv_iconst (v := (0 : Int32)) hx hb d_M_findShelves_101 (by decide) ?_
                        refine lv_istore_n (lv' := [(2, .int (0 : Int32)), (3, .int x3_40), (1, .int x1_36), (0, .ref (d 0))]) hx hb d_M_findShelves_102 rfl hl (by decide) rfl (fun ls hl => ?_)
                        refine lv_iinc (v := (x3_40 + 1)) (lv' := [(3, .int (x3_40 + 1)), (2, .int (0 : Int32)), (1, .int x1_36), (0, .ref (d 0))]) hx hb d_M_findShelves_103 hl (k := 1) rfl rfl (by decide) rfl (fun ls hl => ?_)
                        refine lv_goto (tgt := 70) hx hb d_M_findShelves_106 (by decide) ?_
                        exact ih_70 (0 : Int32) (x3_40 + 1) _ hw (lv_sub hl [0, 1, 2, 3] rfl)
                      · have hw := hw.2 c_46
                        refine lv_iconst (v := (1 : Int32)) hx hb d_M_findShelves_97 (by decide) ?_
                        refine lv_goto (tgt := 102) hx hb d_M_findShelves_98 (by decide) ?_
                        refine lv_istore_n (lv' := [(2, .int (1 : Int32)), (3, .int x3_40), (1, .int x1_36), (0, .ref (d 0))]) hx hb d_M_findShelves_102 rfl hl (by decide) rfl (fun ls hl => ?_)
                        refine lv_iinc (v := (x3_40 + 1)) (lv' := [(3, .int (x3_40 + 1)), (2, .int (1 : Int32)), (1, .int x1_36), (0, .ref (d 0))]) hx hb d_M_findShelves_103 hl (k := 1) rfl rfl (by decide) rfl (fun ls hl => ?_)
                        refine lv_goto (tgt := 70) hx hb d_M_findShelves_106 (by decide) ?_
                        exact ih_70 (1 : Int32) (x3_40 + 1) _ hw (lv_sub hl [0, 1, 2, 3] rfl)
              exact key_70 n_70 (0 : Int32) (0 : Int32) _ hw (lv_sub hl [0, 1, 2, 3] rfl)
        exact key_58 n_58 (0 : Int32) (0 : Int32) m_shelf _ _ _ hw hP hD hS (lv_sub hl [0, 1] rfl)
      · have hw := hw.2 c_10
        refine lv_aload_n hx hb d_M_findShelves_15 rfl (lv_at hl 1 rfl) ?_
        refine va_get (D := D) (ci := 2) (v := .ref (d 3)) (C := R_M) (T := F_M) (N := 18) hx hb hts (iK iW_M) hown hK hP 0 rfl rfl 5 (by decide) (hts _ (kM kw_7ca6b28c)) (fun _ h9 => h9) rfl d_M_findShelves_16 ?_
        refine lv_aload_n hx hb d_M_findShelves_19 rfl (lv_at hl 1 rfl) ?_
        refine va_get (D := D) (ci := 2) (v := .ref (d 6)) (C := R_M) (T := F_M) (N := 18) hx hb hts (iK iW_M) hown hK hP 0 rfl rfl 11 (by decide) (hts _ (kM kw_0bf6b78c)) (fun _ h9 => h9) rfl d_M_findShelves_20 ?_
        refine lv_iload_n hx hb d_M_findShelves_23 rfl (lv_at hl 0 rfl) ?_
        obtain ⟨h_11, hw⟩ := hw
        refine va_iald hx hb hK hP 6 0 rfl rfl h_11 d_M_findShelves_24 ?_
        obtain ⟨h_12, hw⟩ := hw
        refine va_iald hx hb hK hP 3 0 rfl rfl h_12 d_M_findShelves_25 ?_
        refine lv_if_lt (tgt := 48) hx hb d_M_findShelves_26 (by decide) (fun c_13 => ?_) (fun c_13 => ?_)
        · have hw := hw.1 c_13
          refine lv_iconst (v := (0 : Int32)) hx hb d_M_findShelves_48 (by decide) ?_
          exact W.zret (v := (0 : Int32)) (ty := .boolean) hx hb hr rfl (fun t ht hW => ⟨⟨(0 : Int32), (((0 : Int32)), m_shelf), rfl, hw, by rw [ht]; exact hP, va_K.moved hW.alike hK, hD⟩, hS.F ht⟩) hS.2.2 d_M_findShelves_49
        · have hw := hw.2 c_13
          refine lv_aload_n hx hb d_M_findShelves_29 rfl (lv_at hl 1 rfl) ?_
          refine va_get (D := D) (ci := 2) (v := .ref (d 2)) (C := R_M) (T := F_M) (N := 18) hx hb hts (iK iW_M) hown hK hP 0 rfl rfl 4 (by decide) (hts _ (kM kw_f6907c18)) (fun _ h9 => h9) rfl d_M_findShelves_30 ?_
          refine lv_aload_n hx hb d_M_findShelves_33 rfl (lv_at hl 1 rfl) ?_
          refine va_get (D := D) (ci := 2) (v := .ref (d 3)) (C := R_M) (T := F_M) (N := 18) hx hb hts (iK iW_M) hown hK hP 0 rfl rfl 5 (by decide) (hts _ (kM kw_7ca6b28c)) (fun _ h9 => h9) rfl d_M_findShelves_34 ?_
          refine lv_aload_n hx hb d_M_findShelves_37 rfl (lv_at hl 1 rfl) ?_
          refine va_get (D := D) (ci := 2) (v := .ref (d 6)) (C := R_M) (T := F_M) (N := 18) hx hb hts (iK iW_M) hown hK hP 0 rfl rfl 11 (by decide) (hts _ (kM kw_0bf6b78c)) (fun _ h9 => h9) rfl d_M_findShelves_38 ?_
          refine lv_iload_n hx hb d_M_findShelves_41 rfl (lv_at hl 0 rfl) ?_
          obtain ⟨h_14, hw⟩ := hw
          refine va_iald hx hb hK hP 6 0 rfl rfl h_14 d_M_findShelves_42 ?_
          obtain ⟨h_15, hw⟩ := hw
          refine va_iald hx hb hK hP 3 0 rfl rfl h_15 d_M_findShelves_43 ?_
          obtain ⟨h_16, hw⟩ := hw
          refine va_zald hx hb hK hP 2 1 rfl rfl h_16 d_M_findShelves_44 ?_
          refine lv_if_eq (tgt := 50) hx hb d_M_findShelves_45 (by decide) (fun c_17 => ?_) (fun c_17 => ?_)
          · have hw := hw.1 c_17
            refine lv_iinc (v := (x1_9 + 1)) (lv' := [(1, .int (x1_9 + 1)), (0, .ref (d 0))]) hx hb d_M_findShelves_50 hl (k := 0) rfl rfl (by decide) rfl (fun ls hl => ?_)
            refine lv_goto (tgt := 7) hx hb d_M_findShelves_53 (by decide) ?_
            exact ih_7 (x1_9 + 1) _ hw (lv_sub hl [0, 1] rfl)
          · have hw := hw.2 c_17
            refine lv_iconst (v := (0 : Int32)) hx hb d_M_findShelves_48 (by decide) ?_
            exact W.zret (v := (0 : Int32)) (ty := .boolean) hx hb hr rfl (fun t ht hW => ⟨⟨(0 : Int32), (((0 : Int32)), m_shelf), rfl, hw, by rw [ht]; exact hP, va_K.moved hW.alike hK, hD⟩, hS.F ht⟩) hS.2.2 d_M_findShelves_49
  exact key_7 n_7 (0 : Int32) _ hw (lv_sub hl [0, 1] rfl)
def p_M_theOrder_L22_B (v4 : Int32) (m_shelves : Int32) (K_22 : Int32 → Int32 → Prop) (rec_22 : Int32 → Int32 → Prop) (x5_22 : Int32) (x6_22 : Int32) : Prop := (((m_shelves - v4) ≤ x6_22 → K_22 x5_22 x6_22) ∧ (¬ (m_shelves - v4) ≤ x6_22 → rec_22 (x5_22 * x6_22) (x6_22 + 1)))
def p_M_theOrder_L22 (v4 : Int32) (m_shelves : Int32) (K_22 : Int32 → Int32 → Prop) : Nat → Int32 → Int32 → Prop
  | 0 => fun _ _ => False
  | n + 1 => p_M_theOrder_L22_B v4 m_shelves K_22 (p_M_theOrder_L22 v4 m_shelves K_22 n)
def p_M_theOrder_L61_B (v3 : Int32) (K_61 : Int32 → Int32 → Prop) (rec_61 : Int32 → Int32 → Prop) (x6_61 : Int32) (x7_61 : Int32) : Prop := ((((v3 >>> (x7_61 &&& 31)) &&& (1 : Int32)) = (1 : Int32) → ((¬ ((v3 >>> (x7_61 &&& 31)) &&& (1 : Int32)) = 0 → rec_61 x6_61 (x7_61 + 1)) ∧ (((v3 >>> (x7_61 &&& 31)) &&& (1 : Int32)) = 0 → rec_61 (x6_61 + (-1)) (x7_61 + 1)))) ∧ (¬ ((v3 >>> (x7_61 &&& 31)) &&& (1 : Int32)) = (1 : Int32) → ((x6_61 ≤ 0 → K_61 x6_61 x7_61) ∧ (¬ x6_61 ≤ 0 → ((¬ ((v3 >>> (x7_61 &&& 31)) &&& (1 : Int32)) = 0 → rec_61 x6_61 (x7_61 + 1)) ∧ (((v3 >>> (x7_61 &&& 31)) &&& (1 : Int32)) = 0 → rec_61 (x6_61 + (-1)) (x7_61 + 1)))))))
def p_M_theOrder_L61 (v3 : Int32) (K_61 : Int32 → Int32 → Prop) : Nat → Int32 → Int32 → Prop
  | 0 => fun _ _ => False
  | n + 1 => p_M_theOrder_L61_B v3 K_61 (p_M_theOrder_L61 v3 K_61 n)
def p_M_theOrder_L7_B (m_shelves : Int32) (m_shelf : Nat → Int32) (K_7 : Int32 → Int32 → Int32 → (Nat → Int32) → Prop) (rec_7 : Int32 → Int32 → Int32 → (Nat → Int32) → Prop) (x2_7 : Int32) (x3_7 : Int32) (x4_7 : Int32) (m_trial_7 : Nat → Int32) : Prop := ((m_shelves ≤ x4_7 → K_7 x2_7 x3_7 x4_7 m_trial_7) ∧ (¬ m_shelves ≤ x4_7 → (∃ n, p_M_theOrder_L22 x4_7 m_shelves (fun (k_6 : Int32) (k_7 : Int32) => (¬ k_6 = 0 ∧ (¬ k_6 = 0 ∧ (∃ n, p_M_theOrder_L61 x3_7 (fun (k_20 : Int32) (k_21 : Int32) => (vp_in k_21 8 ∧ (vp_in x4_7 8 ∧ rec_7 (x2_7 - x2_7 / k_6 * k_6) (x3_7 ||| ((1 : Int32) <<< (k_21 &&& 31))) (x4_7 + 1) (upd m_trial_7 (x4_7).toNatClampNeg (m_shelf (k_21).toNatClampNeg))))) n (x2_7 / k_6) (0 : Int32))))) n (1 : Int32) (2 : Int32))))
def p_M_theOrder_L7 (m_shelves : Int32) (m_shelf : Nat → Int32) (K_7 : Int32 → Int32 → Int32 → (Nat → Int32) → Prop) : Nat → Int32 → Int32 → Int32 → (Nat → Int32) → Prop
  | 0 => fun _ _ _ _ => False
  | n + 1 => p_M_theOrder_L7_B m_shelves m_shelf K_7 (p_M_theOrder_L7 m_shelves m_shelf K_7 n)
def p_M_theOrder (x1 : Int32) (m_shelves : Int32) (m_shelf : Nat → Int32) (m_trial : Nat → Int32) (post : (Nat → Int32) → Prop) : Prop := (∃ n, p_M_theOrder_L7 m_shelves m_shelf (fun (k_46 : Int32) (k_47 : Int32) (k_48 : Int32) (k_49 : Nat → Int32) => post k_49) n x1 (0 : Int32) (0 : Int32) m_trial)
abbrev rm_M_theOrder : Room := { frames := 1, cells := 0, slots := 0, locals := 40 }
set_option maxHeartbeats 4000000 in
set_option maxRecDepth 100000 in
theorem c_M_theOrder {l : Launch} {D : va_G} {sa : Nat → Nat} {cI cZ : ClassId} {sz : Nat} {d : Nat → Nat} {m_thrownCode : Int32} {m_places : Int32} {m_front : Int32} {m_turns : Int32} {m_fetched : Int32} {m_listed : Int32} {m_planned : Int32} {m_wasExact : Int32} {m_shelves : Int32} {m_placeOf : Nat → Int32} {m_blockedShelf : Nat → Int32} {m_on : Nat → Int32} {m_counts : Nat → Int32} {m_doors : Nat → Int32} {m_list : Nat → Int32} {m_plan : Nat → Int32} {m_shelf : Nat → Int32} {m_trial : Nat → Int32} {x1 : Int32} {post : (Nat → Int32) → Prop} (hw : p_M_theOrder x1 m_shelves m_shelf m_trial post) : Met l y_M_theOrder w_M_theOrder rm_M_theOrder (va_Pc [.ref (d 0), .int x1] (kP D sa [(cI, .int), (cZ, .boolean)] (mW d cI cZ m_thrownCode m_places m_front m_turns m_fetched m_listed m_planned m_wasExact m_shelves m_placeOf m_blockedShelf m_on m_counts m_doors m_list m_plan m_shelf m_trial) sz)) (va_Qv (fun (u : (Nat → Int32)) => post u) (fun (u : (Nat → Int32)) t => va_P D classes (mW d cI cZ m_thrownCode m_places m_front m_turns m_fetched m_listed m_planned m_wasExact m_shelves m_placeOf m_blockedShelf m_on m_counts m_doors m_list m_plan m_shelf u) t.heap ∧ va_K D classes [(cI, .int), (cZ, .boolean)] t ∧ va_D (va_A (mW d cI cZ m_thrownCode m_places m_front m_turns m_fetched m_listed m_planned m_wasExact m_shelves m_placeOf m_blockedShelf m_on m_counts m_doors m_list m_plan m_shelf m_trial) sz) (mW d cI cZ m_thrownCode m_places m_front m_turns m_fetched m_listed m_planned m_wasExact m_shelves m_placeOf m_blockedShelf m_on m_counts m_doors m_list m_plan m_shelf u)) (va_A (mW d cI cZ m_thrownCode m_places m_front m_turns m_fetched m_listed m_planned m_wasExact m_shelves m_placeOf m_blockedShelf m_on m_counts m_doors m_list m_plan m_shelf m_trial) sz)) 0 0 (va_A (mW d cI cZ m_thrownCode m_places m_front m_turns m_fetched m_listed m_planned m_wasExact m_shelves m_placeOf m_blockedShelf m_on m_counts m_doors m_list m_plan m_shelf m_trial) sz) := by
  refine Met.ofW (cc := b_M_theOrder) (maxL := 8) (ret := none) (by decide) rfl ?_
  intro p e s m args below meth c s₁ B hml hv
  obtain ⟨rfl, hsz, hP, hK, hD0, hZ⟩ := hv
  have hx := B.exec
  have hb := B.bytes
  have hr := B.returns
  have hts := atoms_spec (ws := w_M_theOrder) B.pre
  have hown : s.vm.findClass R_M = some m.cls := findClass_of_methodNamed B.named
  have hlocks := B.notSynchronized
  subst hsz
  have hD := hD0.self (sz := s.heap.size)
  generalize hAe : (va_A (mW d cI cZ m_thrownCode m_places m_front m_turns m_fetched m_listed m_planned m_wasExact m_shelves m_placeOf m_blockedShelf m_on m_counts m_doors m_list m_plan m_shelf m_trial) s.heap.size) = A at hD hZ ⊢
  have hA : ∀ q : Nat, s.heap.size ≤ q → A q := fun q h => by rw [← hAe]; exact Or.inr h
  have hS : va_S A s.heap s.heap [] := va_S.rf
  have hl := lv_entry ([.ref (d 0), .int x1]) (n := 8) (Nat.le_of_ble_eq_true rfl)
  rw [lg_entry_eq]
  generalize (lg_sl ([.ref (d 0), .int x1]) ++ List.replicate (8 - (lg_sl ([.ref (d 0), .int x1])).length) Slot.unset).toArray = ls at hl ⊢
  have hl : lv_has ls 8 [(0, .ref (d 0)), (1, .int x1)] := hl
  refine lv_iload_n hx hb d_M_theOrder_0 rfl (lv_at hl 1 rfl) ?_
  refine lv_istore_n (lv' := [(2, .int x1), (0, .ref (d 0)), (1, .int x1)]) hx hb d_M_theOrder_1 rfl hl (by decide) rfl (fun ls hl => ?_)
  refine lv_iconst (v := (0 : Int32)) hx hb d_M_theOrder_2 (by decide) ?_
  refine lv_istore_n (lv' := [(3, .int (0 : Int32)), (2, .int x1), (0, .ref (d 0)), (1, .int x1)]) hx hb d_M_theOrder_3 rfl hl (by decide) rfl (fun ls hl => ?_)
  refine lv_iconst (v := (0 : Int32)) hx hb d_M_theOrder_4 (by decide) ?_
  refine lv_istore (lv' := [(4, .int (0 : Int32)), (3, .int (0 : Int32)), (2, .int x1), (0, .ref (d 0)), (1, .int x1)]) hx hb d_M_theOrder_5 hl (by decide) rfl (fun ls hl => ?_)
  obtain ⟨K_7, hK_7⟩ : ∃ z : Int32 → Int32 → Int32 → (Nat → Int32) → Prop, z = (fun (k_46 : Int32) (k_47 : Int32) (k_48 : Int32) (k_49 : Nat → Int32) => post k_49) := ⟨_, rfl⟩
  have hw : ∃ n, p_M_theOrder_L7 m_shelves m_shelf K_7 n x1 (0 : Int32) (0 : Int32) m_trial := by rw [hK_7]; exact hw
  obtain ⟨n_7, hw⟩ := hw
  have key_7 : ∀ (n : Nat) (x2_26 : Int32) (x3_25 : Int32) (x4_24 : Int32) (m_trial_27 : Nat → Int32) (H : Heap) (locs : List Loc) (ls : Array Slot), p_M_theOrder_L7 m_shelves m_shelf K_7 n x2_26 x3_25 x4_24 m_trial_27 → va_P D classes (mW d cI cZ m_thrownCode m_places m_front m_turns m_fetched m_listed m_planned m_wasExact m_shelves m_placeOf m_blockedShelf m_on m_counts m_doors m_list m_plan m_shelf m_trial_27) H → va_D A (mW d cI cZ m_thrownCode m_places m_front m_turns m_fetched m_listed m_planned m_wasExact m_shelves m_placeOf m_blockedShelf m_on m_counts m_doors m_list m_plan m_shelf m_trial_27) → va_S A s.heap H locs → lv_has ls 8 [(4, .int x4_24), (3, .int x3_25), (2, .int x2_26), (0, .ref (d 0)), (1, .int x1)] → W p l e (headSpec w_M_theOrder rm_M_theOrder).room s m ([.ref (d 0), .int x1] : List Value).toArray below meth c H locs 0 0 (MQ below (va_Qv (fun (u : (Nat → Int32)) => post u) (fun (u : (Nat → Int32)) t => va_P D classes (mW d cI cZ m_thrownCode m_places m_front m_turns m_fetched m_listed m_planned m_wasExact m_shelves m_placeOf m_blockedShelf m_on m_counts m_doors m_list m_plan m_shelf u) t.heap ∧ va_K D classes [(cI, .int), (cZ, .boolean)] t ∧ va_D A (mW d cI cZ m_thrownCode m_places m_front m_turns m_fetched m_listed m_planned m_wasExact m_shelves m_placeOf m_blockedShelf m_on m_counts m_doors m_list m_plan m_shelf u)) A) ([.ref (d 0), .int x1] : List Value).toArray s 0 0 A) (F0 m 7 ls []) := by
    intro n
    induction n with
    | zero => intro x2_26 x3_25 x4_24 m_trial_27 H locs ls hw hP hD hS hl; exact hw.elim
    | succ n ih_7 =>
      intro x2_26 x3_25 x4_24 m_trial_27 H locs ls hw hP hD hS hl
      have hw : p_M_theOrder_L7_B m_shelves m_shelf K_7 (p_M_theOrder_L7 m_shelves m_shelf K_7 n) x2_26 x3_25 x4_24 m_trial_27 := hw
      generalize p_M_theOrder_L7 m_shelves m_shelf K_7 n = rec_7 at hw ih_7
      refine lv_iload hx hb d_M_theOrder_7 (lv_at hl 0 rfl) ?_
      refine lv_aload_n hx hb d_M_theOrder_9 rfl (lv_at hl 3 rfl) ?_
      refine va_get (D := D) (ci := 2) (v := .int m_shelves) (C := R_M) (T := F_M) (N := 18) hx hb hts (iK iW_M) hown hK hP 0 rfl rfl 15 (by decide) (hts _ (kM kw_545b2532)) (fun _ h9 => h9) rfl d_M_theOrder_10 ?_
      refine lv_icmp_ge (tgt := 121) hx hb d_M_theOrder_13 (by decide) (fun c_28 => ?_) (fun c_28 => ?_)
      · have hw := hw.1 c_28
        rw [hK_7] at hw
        have hl : lv_has ls 8 [(4, .int x4_24), (3, .int x3_25), (2, .int x2_26), (0, .ref (d 0)), (1, .int x1)] := lv_sub hl [0, 1, 2, 3, 4] rfl
        exact W.vret hx hb hr (fun t ht hW => ⟨⟨m_trial_27, rfl, hw, by rw [ht]; exact hP, va_K.moved hW.alike hK, hD⟩, hS.F ht⟩) hS.2.2 d_M_theOrder_121
      · have hw := hw.2 c_28
        refine lv_iconst (v := (1 : Int32)) hx hb d_M_theOrder_16 (by decide) ?_
        refine lv_istore (lv' := [(5, .int (1 : Int32)), (4, .int x4_24), (3, .int x3_25), (2, .int x2_26), (0, .ref (d 0)), (1, .int x1)]) hx hb d_M_theOrder_17 hl (by decide) rfl (fun ls hl => ?_)
        refine lv_iconst (v := (2 : Int32)) hx hb d_M_theOrder_19 (by decide) ?_
        refine lv_istore (lv' := [(6, .int (2 : Int32)), (5, .int (1 : Int32)), (4, .int x4_24), (3, .int x3_25), (2, .int x2_26), (0, .ref (d 0)), (1, .int x1)]) hx hb d_M_theOrder_20 hl (by decide) rfl (fun ls hl => ?_)
        obtain ⟨K_22, hK_22⟩ : ∃ z : Int32 → Int32 → Prop, z = (fun (k_32 : Int32) (k_33 : Int32) => (¬ k_32 = 0 ∧ (¬ k_32 = 0 ∧ (∃ n, p_M_theOrder_L61 x3_25 (fun (k_42 : Int32) (k_43 : Int32) => (vp_in k_43 8 ∧ (vp_in x4_24 8 ∧ rec_7 (x2_26 - x2_26 / k_32 * k_32) (x3_25 ||| ((1 : Int32) <<< (k_43 &&& 31))) (x4_24 + 1) (upd m_trial_27 (x4_24).toNatClampNeg (m_shelf (k_43).toNatClampNeg))))) n (x2_26 / k_32) (0 : Int32))))) := ⟨_, rfl⟩
        have hw : ∃ n, p_M_theOrder_L22 x4_24 m_shelves K_22 n (1 : Int32) (2 : Int32) := by rw [hK_22]; exact hw
        obtain ⟨n_22, hw⟩ := hw
        have key_22 : ∀ (n : Nat) (x5_30 : Int32) (x6_29 : Int32) (ls : Array Slot), p_M_theOrder_L22 x4_24 m_shelves K_22 n x5_30 x6_29 → lv_has ls 8 [(6, .int x6_29), (5, .int x5_30), (4, .int x4_24), (3, .int x3_25), (2, .int x2_26), (0, .ref (d 0)), (1, .int x1)] → W p l e (headSpec w_M_theOrder rm_M_theOrder).room s m ([.ref (d 0), .int x1] : List Value).toArray below meth c H locs 0 0 (MQ below (va_Qv (fun (u : (Nat → Int32)) => post u) (fun (u : (Nat → Int32)) t => va_P D classes (mW d cI cZ m_thrownCode m_places m_front m_turns m_fetched m_listed m_planned m_wasExact m_shelves m_placeOf m_blockedShelf m_on m_counts m_doors m_list m_plan m_shelf u) t.heap ∧ va_K D classes [(cI, .int), (cZ, .boolean)] t ∧ va_D A (mW d cI cZ m_thrownCode m_places m_front m_turns m_fetched m_listed m_planned m_wasExact m_shelves m_placeOf m_blockedShelf m_on m_counts m_doors m_list m_plan m_shelf u)) A) ([.ref (d 0), .int x1] : List Value).toArray s 0 0 A) (F0 m 22 ls []) := by
          intro n
          induction n with
          | zero => intro x5_30 x6_29 ls hw hl; exact hw.elim
          | succ n ih_22 =>
            intro x5_30 x6_29 ls hw hl
            have hw : p_M_theOrder_L22_B x4_24 m_shelves K_22 (p_M_theOrder_L22 x4_24 m_shelves K_22 n) x5_30 x6_29 := hw
            generalize p_M_theOrder_L22 x4_24 m_shelves K_22 n = rec_22 at hw ih_22
            refine lv_iload hx hb d_M_theOrder_22 (lv_at hl 0 rfl) ?_
            refine lv_aload_n hx hb d_M_theOrder_24 rfl (lv_at hl 5 rfl) ?_
            refine va_get (D := D) (ci := 2) (v := .int m_shelves) (C := R_M) (T := F_M) (N := 18) hx hb hts (iK iW_M) hown hK hP 0 rfl rfl 15 (by decide) (hts _ (kM kw_545b2532)) (fun _ h9 => h9) rfl d_M_theOrder_25 ?_
            refine lv_iload hx hb d_M_theOrder_28 (lv_at hl 2 rfl) ?_
            refine lv_isub hx hb d_M_theOrder_30 ?_
            refine lv_icmp_ge (tgt := 47) hx hb d_M_theOrder_31 (by decide) (fun c_31 => ?_) (fun c_31 => ?_)
            · have hw := hw.1 c_31
              rw [hK_22] at hw
              have hl : lv_has ls 8 [(6, .int x6_29), (5, .int x5_30), (4, .int x4_24), (3, .int x3_25), (2, .int x2_26), (0, .ref (d 0)), (1, .int x1)] := lv_sub hl [0, 1, 2, 3, 4, 5, 6] rfl
              refine lv_iload_n hx hb d_M_theOrder_47 rfl (lv_at hl 4 rfl) ?_
              refine lv_iload hx hb d_M_theOrder_48 (lv_at hl 1 rfl) ?_
              obtain ⟨h_34, hw⟩ := hw
              refine lv_idiv hx hb d_M_theOrder_50 h_34 ?_
              refine lv_istore (lv' := [(6, .int (x2_26 / x5_30)), (5, .int x5_30), (4, .int x4_24), (3, .int x3_25), (2, .int x2_26), (0, .ref (d 0)), (1, .int x1)]) hx hb d_M_theOrder_51 hl (by decide) rfl (fun ls hl => ?_)
              refine lv_iload_n hx hb d_M_theOrder_53 rfl (lv_at hl 4 rfl) ?_
              refine lv_iload hx hb d_M_theOrder_54 (lv_at hl 1 rfl) ?_
              obtain ⟨h_35, hw⟩ := hw
              refine lv_irem hx hb d_M_theOrder_56 h_35 ?_
              refine lv_istore_n (lv' := [(2, .int (x2_26 - x2_26 / x5_30 * x5_30)), (6, .int (x2_26 / x5_30)), (5, .int x5_30), (4, .int x4_24), (3, .int x3_25), (0, .ref (d 0)), (1, .int x1)]) hx hb d_M_theOrder_57 rfl hl (by decide) rfl (fun ls hl => ?_)
              refine lv_iconst (v := (0 : Int32)) hx hb d_M_theOrder_58 (by decide) ?_
              refine lv_istore (lv' := [(7, .int (0 : Int32)), (2, .int (x2_26 - x2_26 / x5_30 * x5_30)), (6, .int (x2_26 / x5_30)), (5, .int x5_30), (4, .int x4_24), (3, .int x3_25), (0, .ref (d 0)), (1, .int x1)]) hx hb d_M_theOrder_59 hl (by decide) rfl (fun ls hl => ?_)
              obtain ⟨K_61, hK_61⟩ : ∃ z : Int32 → Int32 → Prop, z = (fun (k_42 : Int32) (k_43 : Int32) => (vp_in k_43 8 ∧ (vp_in x4_24 8 ∧ rec_7 (x2_26 - x2_26 / x5_30 * x5_30) (x3_25 ||| ((1 : Int32) <<< (k_43 &&& 31))) (x4_24 + 1) (upd m_trial_27 (x4_24).toNatClampNeg (m_shelf (k_43).toNatClampNeg))))) := ⟨_, rfl⟩
              have hw : ∃ n, p_M_theOrder_L61 x3_25 K_61 n (x2_26 / x5_30) (0 : Int32) := by rw [hK_61]; exact hw
              obtain ⟨n_61, hw⟩ := hw
              have key_61 : ∀ (n : Nat) (x6_37 : Int32) (x7_36 : Int32) (ls : Array Slot), p_M_theOrder_L61 x3_25 K_61 n x6_37 x7_36 → lv_has ls 8 [(7, .int x7_36), (2, .int (x2_26 - x2_26 / x5_30 * x5_30)), (6, .int x6_37), (5, .int x5_30), (4, .int x4_24), (3, .int x3_25), (0, .ref (d 0)), (1, .int x1)] → W p l e (headSpec w_M_theOrder rm_M_theOrder).room s m ([.ref (d 0), .int x1] : List Value).toArray below meth c H locs 0 0 (MQ below (va_Qv (fun (u : (Nat → Int32)) => post u) (fun (u : (Nat → Int32)) t => va_P D classes (mW d cI cZ m_thrownCode m_places m_front m_turns m_fetched m_listed m_planned m_wasExact m_shelves m_placeOf m_blockedShelf m_on m_counts m_doors m_list m_plan m_shelf u) t.heap ∧ va_K D classes [(cI, .int), (cZ, .boolean)] t ∧ va_D A (mW d cI cZ m_thrownCode m_places m_front m_turns m_fetched m_listed m_planned m_wasExact m_shelves m_placeOf m_blockedShelf m_on m_counts m_doors m_list m_plan m_shelf u)) A) ([.ref (d 0), .int x1] : List Value).toArray s 0 0 A) (F0 m 61 ls []) := by
                intro n
                induction n with
                | zero => intro x6_37 x7_36 ls hw hl; exact hw.elim
                | succ n ih_61 =>
                  intro x6_37 x7_36 ls hw hl
                  have hw : p_M_theOrder_L61_B x3_25 K_61 (p_M_theOrder_L61 x3_25 K_61 n) x6_37 x7_36 := hw
                  generalize p_M_theOrder_L61 x3_25 K_61 n = rec_61 at hw ih_61
                  refine lv_iload_n hx hb d_M_theOrder_61 rfl (lv_at hl 5 rfl) ?_
                  refine lv_iload hx hb d_M_theOrder_62 (lv_at hl 0 rfl) ?_
                  refine lv_ishr hx hb d_M_theOrder_64 ?_
                  refine lv_iconst (v := (1 : Int32)) hx hb d_M_theOrder_65 (by decide) ?_
                  refine lv_iand hx hb d_M_theOrder_66 ?_
                  refine lv_iconst (v := (1 : Int32)) hx hb d_M_theOrder_67 (by decide) ?_
                  refine lv_icmp_eq (tgt := 76) hx hb d_M_theOrder_68 (by decide) (fun c_38 => ?_) (fun c_38 => ?_)
                  · have hw := hw.1 c_38
                    refine lv_iload_n hx hb d_M_theOrder_76 rfl (lv_at hl 5 rfl) ?_
                    refine lv_iload hx hb d_M_theOrder_77 (lv_at hl 0 rfl) ?_
                    refine lv_ishr hx hb d_M_theOrder_79 ?_
                    refine lv_iconst (v := (1 : Int32)) hx hb d_M_theOrder_80 (by decide) ?_
                    refine lv_iand hx hb d_M_theOrder_81 ?_
                    refine lv_if_ne (tgt := 88) hx hb d_M_theOrder_82 (by decide) (fun c_39 => ?_) (fun c_39 => ?_)
                    · have hw := hw.1 c_39
                      refine lv_iinc (v := (x7_36 + 1)) (lv' := [(7, .int (x7_36 + 1)), (2, .int (x2_26 - x2_26 / x5_30 * x5_30)), (6, .int x6_37), (5, .int x5_30), (4, .int x4_24), (3, .int x3_25), (0, .ref (d 0)), (1, .int x1)]) hx hb d_M_theOrder_88 hl (k := 0) rfl rfl (by decide) rfl (fun ls hl => ?_)
                      refine lv_goto (tgt := 61) hx hb d_M_theOrder_91 (by decide) ?_
                      exact ih_61 x6_37 (x7_36 + 1) _ hw (lv_sub hl [0, 1, 2, 3, 4, 5, 6, 7] rfl)
                    · have hw := hw.2 c_39
                      refine lv_iinc (v := (x6_37 + (-1))) (lv' := [(6, .int (x6_37 + (-1))), (7, .int x7_36), (2, .int (x2_26 - x2_26 / x5_30 * x5_30)), (5, .int x5_30), (4, .int x4_24), (3, .int x3_25), (0, .ref (d 0)), (1, .int x1)]) hx hb d_M_theOrder_85 hl (k := 2) rfl rfl (by decide) rfl (fun ls hl => ?_)
                      refine lv_iinc (v := (x7_36 + 1)) (lv' := [(7, .int (x7_36 + 1)), (6, .int (x6_37 + (-1))), (2, .int (x2_26 - x2_26 / x5_30 * x5_30)), (5, .int x5_30), (4, .int x4_24), (3, .int x3_25), (0, .ref (d 0)), (1, .int x1)]) hx hb d_M_theOrder_88 hl (k := 1) rfl rfl (by decide) rfl (fun ls hl => ?_)
                      refine lv_goto (tgt := 61) hx hb d_M_theOrder_91 (by decide) ?_
                      exact ih_61 (x6_37 + (-1)) (x7_36 + 1) _ hw (lv_sub hl [0, 2, 1, 3, 4, 5, 6, 7] rfl)
                  · have hw := hw.2 c_38
                    refine lv_iload hx hb d_M_theOrder_71 (lv_at hl 2 rfl) ?_
                    refine lv_if_le (tgt := 94) hx hb d_M_theOrder_73 (by decide) (fun c_40 => ?_) (fun c_40 => ?_)
                    · have hw := hw.1 c_40
                      rw [hK_61] at hw
                      have hl : lv_has ls 8 [(7, .int x7_36), (2, .int (x2_26 - x2_26 / x5_30 * x5_30)), (6, .int x6_37), (5, .int x5_30), (4, .int x4_24), (3, .int x3_25), (0, .ref (d 0)), (1, .int x1)] := lv_sub hl [0, 1, 2, 3, 4, 5, 6, 7] rfl
                      refine lv_iload_n hx hb d_M_theOrder_94 rfl (lv_at hl 5 rfl) ?_
                      refine lv_iconst (v := (1 : Int32)) hx hb d_M_theOrder_95 (by decide) ?_
                      refine lv_iload hx hb d_M_theOrder_96 (lv_at hl 0 rfl) ?_
                      refine lv_ishl hx hb d_M_theOrder_98 ?_
                      refine lv_ior hx hb d_M_theOrder_99 ?_
                      refine lv_istore_n (lv' := [(3, .int (x3_25 ||| ((1 : Int32) <<< (x7_36 &&& 31)))), (7, .int x7_36), (2, .int (x2_26 - x2_26 / x5_30 * x5_30)), (6, .int x6_37), (5, .int x5_30), (4, .int x4_24), (0, .ref (d 0)), (1, .int x1)]) hx hb d_M_theOrder_100 rfl hl (by decide) rfl (fun ls hl => ?_)
                      refine lv_aload_n hx hb d_M_theOrder_101 rfl (lv_at hl 6 rfl) ?_
                      refine va_get (D := D) (ci := 2) (v := .ref (d 9)) (C := R_M) (T := F_M) (N := 18) hx hb hts (iK iW_M) hown hK hP 0 rfl rfl 17 (by decide) (hts _ (kM kw_b638f234)) (fun _ h9 => h9) rfl d_M_theOrder_102 ?_
                      refine lv_iload hx hb d_M_theOrder_105 (lv_at hl 5 rfl) ?_
                      refine lv_aload_n hx hb d_M_theOrder_107 rfl (lv_at hl 6 rfl) ?_
                      refine va_get (D := D) (ci := 2) (v := .ref (d 8)) (C := R_M) (T := F_M) (N := 18) hx hb hts (iK iW_M) hown hK hP 0 rfl rfl 16 (by decide) (hts _ (kM kw_97fc661c)) (fun _ h9 => h9) rfl d_M_theOrder_108 ?_
                      refine lv_iload hx hb d_M_theOrder_111 (lv_at hl 1 rfl) ?_
                      obtain ⟨h_44, hw⟩ := hw
                      refine va_iald hx hb hK hP 8 0 rfl rfl h_44 d_M_theOrder_113 ?_
                      obtain ⟨h_45, hw⟩ := hw
                      refine va_iast hx hb hK hP hD hS 9 0 rfl rfl h_45 d_M_theOrder_114 (fun H locs hP hD hS => ?_)
                      have hP : va_P D classes (mW d cI cZ m_thrownCode m_places m_front m_turns m_fetched m_listed m_planned m_wasExact m_shelves m_placeOf m_blockedShelf m_on m_counts m_doors m_list m_plan m_shelf (upd m_trial_27 (x4_24).toNatClampNeg (m_shelf (x7_36).toNatClampNeg))) H := hP
                      have hD : va_D A (mW d cI cZ m_thrownCode m_places m_front m_turns m_fetched m_listed m_planned m_wasExact m_shelves m_placeOf m_blockedShelf m_on m_counts m_doors m_list m_plan m_shelf (upd m_trial_27 (x4_24).toNatClampNeg (m_shelf (x7_36).toNatClampNeg))) := hD
                      refine lv_iinc (v := (x4_24 + 1)) (lv' := [(4, .int (x4_24 + 1)), (3, .int (x3_25 ||| ((1 : Int32) <<< (x7_36 &&& 31)))), (7, .int x7_36), (2, .int (x2_26 - x2_26 / x5_30 * x5_30)), (6, .int x6_37), (5, .int x5_30), (0, .ref (d 0)), (1, .int x1)]) hx hb d_M_theOrder_115 hl (k := 5) rfl rfl (by decide) rfl (fun ls hl => ?_)
                      refine lv_goto (tgt := 7) hx hb d_M_theOrder_118 (by decide) ?_
                      exact ih_7 (x2_26 - x2_26 / x5_30 * x5_30) (x3_25 ||| ((1 : Int32) <<< (x7_36 &&& 31))) (x4_24 + 1) (upd m_trial_27 (x4_24).toNatClampNeg (m_shelf (x7_36).toNatClampNeg)) _ _ _ hw hP hD hS (lv_sub hl [0, 1, 3, 6, 7] rfl)
                    · have hw := hw.2 c_40
                      refine lv_iload_n hx hb d_M_theOrder_76 rfl (lv_at hl 5 rfl) ?_
                      refine lv_iload hx hb d_M_theOrder_77 (lv_at hl 0 rfl) ?_
                      refine lv_ishr hx hb d_M_theOrder_79 ?_
                      refine lv_iconst (v := (1 : Int32)) hx hb d_M_theOrder_80 (by decide) ?_
                      refine lv_iand hx hb d_M_theOrder_81 ?_
                      refine lv_if_ne (tgt := 88) hx hb d_M_theOrder_82 (by decide) (fun c_41 => ?_) (fun c_41 => ?_)
                      · have hw := hw.1 c_41
                        refine lv_iinc (v := (x7_36 + 1)) (lv' := [(7, .int (x7_36 + 1)), (2, .int (x2_26 - x2_26 / x5_30 * x5_30)), (6, .int x6_37), (5, .int x5_30), (4, .int x4_24), (3, .int x3_25), (0, .ref (d 0)), (1, .int x1)]) hx hb d_M_theOrder_88 hl (k := 0) rfl rfl (by decide) rfl (fun ls hl => ?_)
                        refine lv_goto (tgt := 61) hx hb d_M_theOrder_91 (by decide) ?_
                        exact ih_61 x6_37 (x7_36 + 1) _ hw (lv_sub hl [0, 1, 2, 3, 4, 5, 6, 7] rfl)
                      · have hw := hw.2 c_41
                        refine lv_iinc (v := (x6_37 + (-1))) (lv' := [(6, .int (x6_37 + (-1))), (7, .int x7_36), (2, .int (x2_26 - x2_26 / x5_30 * x5_30)), (5, .int x5_30), (4, .int x4_24), (3, .int x3_25), (0, .ref (d 0)), (1, .int x1)]) hx hb d_M_theOrder_85 hl (k := 2) rfl rfl (by decide) rfl (fun ls hl => ?_)
                        refine lv_iinc (v := (x7_36 + 1)) (lv' := [(7, .int (x7_36 + 1)), (6, .int (x6_37 + (-1))), (2, .int (x2_26 - x2_26 / x5_30 * x5_30)), (5, .int x5_30), (4, .int x4_24), (3, .int x3_25), (0, .ref (d 0)), (1, .int x1)]) hx hb d_M_theOrder_88 hl (k := 1) rfl rfl (by decide) rfl (fun ls hl => ?_)
                        refine lv_goto (tgt := 61) hx hb d_M_theOrder_91 (by decide) ?_
                        exact ih_61 (x6_37 + (-1)) (x7_36 + 1) _ hw (lv_sub hl [0, 2, 1, 3, 4, 5, 6, 7] rfl)
              exact key_61 n_61 (x2_26 / x5_30) (0 : Int32) _ hw (lv_sub hl [0, 1, 2, 3, 4, 5, 6, 7] rfl)
            · have hw := hw.2 c_31
              refine lv_iload hx hb d_M_theOrder_34 (lv_at hl 1 rfl) ?_
              refine lv_iload hx hb d_M_theOrder_36 (lv_at hl 0 rfl) ?_
              refine lv_imul hx hb d_M_theOrder_38 ?_
              refine lv_istore (lv' := [(5, .int (x5_30 * x6_29)), (6, .int x6_29), (4, .int x4_24), (3, .int x3_25), (2, .int x2_26), (0, .ref (d 0)), (1, .int x1)]) hx hb d_M_theOrder_39 hl (by decide) rfl (fun ls hl => ?_)
              refine lv_iinc (v := (x6_29 + 1)) (lv' := [(6, .int (x6_29 + 1)), (5, .int (x5_30 * x6_29)), (4, .int x4_24), (3, .int x3_25), (2, .int x2_26), (0, .ref (d 0)), (1, .int x1)]) hx hb d_M_theOrder_41 hl (k := 1) rfl rfl (by decide) rfl (fun ls hl => ?_)
              refine lv_goto (tgt := 22) hx hb d_M_theOrder_44 (by decide) ?_
              exact ih_22 (x5_30 * x6_29) (x6_29 + 1) _ hw (lv_sub hl [0, 1, 2, 3, 4, 5, 6] rfl)
        exact key_22 n_22 (1 : Int32) (2 : Int32) _ hw (lv_sub hl [0, 1, 2, 3, 4, 5, 6] rfl)
  exact key_7 n_7 x1 (0 : Int32) (0 : Int32) m_trial _ _ _ hw hP hD hS (lv_sub hl [0, 1, 2, 3, 4] rfl)
