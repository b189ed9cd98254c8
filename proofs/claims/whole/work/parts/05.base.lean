/-! our own ground: the good words of the tables, what a contract takes as given, calls -/
def WALL : List Cond := lw_tbl.filter goodWord
theorem wall_in {w : Cond} (h : w ∈ WALL) : w ∈ lw_tbl := (List.mem_filter.mp h).1
theorem wall_good {w : Cond} (h : w ∈ WALL) : (w.onTables && w.keeps) = true ∨ ∃ ty, w = .arrayClass ty := good_of_word (List.mem_filter.mp h).2
theorem wl {w : Cond} (i : Nat) (h : lw_tbl[i]? = some w) (g : goodWord w = true) : w ∈ WALL := List.mem_filter.mpr ⟨List.mem_of_getElem? h, g⟩
theorem kM {w c0 : Cond} (h : w ∈ WALL) : w ∈ c0 :: WALL := List.mem_cons_of_mem _ h
theorem iK {ws : List Cond} {c0 : Cond} (h : ∀ w ∈ ws, w ∈ WALL) : ∀ w ∈ ws, w ∈ c0 :: WALL := fun w hw => kM (h w hw)
theorem gC {c0 c1 : Cond} (h : c1 ∈ WALL) : GoodIn (c0 :: WALL) (c1 :: WALL) := fun w hw => (List.mem_cons.mp hw).elim (fun e => by subst e; exact ⟨kM h, wall_good h⟩) (fun h2 => ⟨kM h2, wall_good h2⟩)
theorem gWW {c0 c1 : Cond} {ws : List Cond} (h : c1 ∈ WALL) (hw : ∀ w ∈ ws, w ∈ WALL) : GoodIn (c0 :: WALL) (ws ++ (c1 :: WALL)) := fun w h2 => (List.mem_append.mp h2).elim (fun h3 => ⟨kM (hw w h3), wall_good (hw w h3)⟩) (fun h3 => gC h w h3)
theorem gV {c0 c1 : Cond} {own C : String} {idx : Nat} {y : MethodName} (h : c1 ∈ WALL) (h1 : Cond.methodLink own idx y ∈ WALL) (h2 : Cond.instanceMethod y ∈ WALL) (h3 : Cond.selects C y y ∈ WALL) (h4 : Cond.initialized C ∈ WALL) : GoodIn (c0 :: WALL) (wsV own idx C y (c1 :: WALL)) :=
  gWW h (List.forall_mem_cons.mpr ⟨h1, List.forall_mem_cons.mpr ⟨h2, List.forall_mem_cons.mpr ⟨h3, List.forall_mem_cons.mpr ⟨h4, fun _ h => absurd h List.not_mem_nil⟩⟩⟩⟩)
theorem gS {c0 c1 : Cond} {own : String} {idx : Nat} {y : MethodName} (h : c1 ∈ WALL) (h1 : Cond.methodLink own idx y ∈ WALL) (h2 : Cond.static y ∈ WALL) (h4 : Cond.initialized own ∈ WALL) : GoodIn (c0 :: WALL) (wsS own idx y (c1 :: WALL)) :=
  gWW h (List.forall_mem_cons.mpr ⟨h1, List.forall_mem_cons.mpr ⟨h2, List.forall_mem_cons.mpr ⟨h4, fun _ h => absurd h List.not_mem_nil⟩⟩⟩)
theorem gT {c0 c1 : Cond} {own : String} {idx : Nat} {y : MethodName} (h : c1 ∈ WALL) (h1 : Cond.methodLink own idx y ∈ WALL) (h2 : Cond.static y ∈ WALL) (h4 : Cond.initialized y.cls ∈ WALL) : GoodIn (c0 :: WALL) (va_wsS own idx y (c1 :: WALL)) :=
  gWW h (List.forall_mem_cons.mpr ⟨h1, List.forall_mem_cons.mpr ⟨h2, List.forall_mem_cons.mpr ⟨h4, fun _ h => absurd h List.not_mem_nil⟩⟩⟩)
theorem sw_out {x : Int32} {n : Nat} {hi : Int} (h9 : hi + 1 = n) (hn : n ≤ 64) (h : ∀ k, k < n → ¬ x = nI k) : x.toInt < 0 ∨ hi < x.toInt := by
  rcases Int.lt_or_le x.toInt 0 with h0 | h0
  · exact Or.inl h0
  · right
    rcases Int.lt_or_le hi x.toInt with h1 | h1
    · exact h1
    · exfalso
      refine h x.toInt.toNat (by omega) ?_
      apply Int32.toInt_inj.mp
      rw [nI_toInt (by omega)]
      omega
-- the words that don't pass of themselves, the texts, the statics of Throwable
def zk : Cond → Bool
  | .fieldLinkNest _ _ _ _ _ _ => true
  | .methodLinkNest _ _ _ _ => true
  | .declares _ => true
  | .castable _ _ => true
  | _ => false
theorem zk_warm {w : Cond} {s U : State} (h : zk w = true) (hW : s.WarmedH U.vm) (hZ : va_Nw w s) : va_Nw w U := by
  cases w <;> first | exact va_Nw.warmF hW hZ | exact va_Nw.warmM hW hZ | exact va_Nw.warmD hW hZ | exact va_Nw.warmC hW hZ | (exact absurd h (by simp [zk]))
theorem zk_same {w : Cond} {s U : State} (h : zk w = true) (hv : s.vm = U.vm) (hZ : va_Nw w s) : va_Nw w U := by
  cases w <;> first | exact va_Nw.same rfl hv hZ | (exact absurd h (by simp [zk]))
theorem zk_tab {w : Cond} (h : zk w = true) : w.onTables = true := by
  cases w <;> first | rfl | (exact absurd h (by simp [zk]))

def zW : List Cond := [Cond.castable "java/lang/ArithmeticException" "java/lang/ArithmeticException", Cond.castable "java/lang/IllegalArgumentException" "java/lang/IllegalArgumentException", Cond.castable "java/lang/IllegalStateException" "java/lang/IllegalStateException", Cond.castable "java/lang/UnsupportedOperationException" "java/lang/UnsupportedOperationException", Cond.castable "java/util/NoSuchElementException" "java/util/NoSuchElementException", Cond.declares ⟨"java/lang/Exception", "<init>", "(Ljava/lang/String;)V"⟩, Cond.declares ⟨"java/lang/RuntimeException", "<init>", "(Ljava/lang/String;)V"⟩, Cond.declares ⟨"java/lang/Throwable", "<init>", "(Ljava/lang/String;)V"⟩, Cond.fieldLinkNest R_C 133 R_P "isExact" "Z" R_C, Cond.methodLinkNest R_C 117 y_P_forget R_C, Cond.methodLinkNest R_C 123 y_P_addStop R_C, Cond.methodLinkNest R_C 127 y_P_order R_C, Cond.methodLinkNest R_C 130 y_P_shelfOfStop R_C, Cond.methodLinkNest R_C 47 y_P_init R_C, Cond.methodLinkNest R_P 56 y_C_distance R_C]
def zS : List (String × Nat × String) := [(R_C, 168, "no such shelf"), (R_C, 171, "no such unit"), (R_C, 73, "the shelf is full"), (R_C, 62, "the unit lies on a shelf"), (R_C, 177, "/ by zero"), (R_C, 180, "a door is open"), (R_C, 81, "no such place"), (R_C, 111, "the list is full"), (R_C, 106, "the unit is on the list"), (R_C, 101, "the unit lies nowhere or its shelf is blocked"), (R_C, 113, "no such number of shelves for an exact plan"), (R_C, 115, "a unit lies nowhere or its shelf is blocked"), (R_C, 173, "no such station"), (R_C, 142, "the shelf in front is blocked"), (R_C, 140, "the station's door is closed"), (R_C, 147, "the shelves are the same"), (R_C, 152, "no such number of days"), (R_C, 157, "nothing is told of a shelf by this number")]
def zN : List (String × String) := [("java/lang/IllegalArgumentException", "java/lang/ArithmeticException"), ("java/lang/IllegalArgumentException", "java/util/NoSuchElementException"), ("java/lang/IllegalStateException", "java/lang/ArithmeticException"), ("java/lang/IllegalStateException", "java/lang/IllegalArgumentException"), ("java/lang/IllegalStateException", "java/util/NoSuchElementException"), ("java/lang/UnsupportedOperationException", "java/lang/IllegalArgumentException"), ("java/lang/UnsupportedOperationException", "java/lang/IllegalStateException"), ("java/lang/UnsupportedOperationException", "java/util/NoSuchElementException")]
theorem zW_ok : zW.all zk = true := by decide +kernel
def kZ (sa : Nat → Nat) (A : Nat → Prop) (U : State) (H : Heap) : Prop :=
  (∀ w ∈ zW, va_Nw w U) ∧ (∀ (k : Nat) (q : String × Nat × String), zS[k]? = some q → vk_R q.1 q.2.1 q.2.2 (sa k) U) ∧ vx_Zq Bundle.tN "UNASSIGNED_STACK" Bundle.steD A U H ∧ vx_Zq Bundle.tN "SUPPRESSED_SENTINEL" Bundle.listD A U H ∧ (∀ q ∈ zN, va_Nc q.1 q.2 U)
theorem kZ.s {sa : Nat → Nat} {A : Nat → Prop} {U : State} {H : Heap} (h : kZ sa A U H) (k : Nat) {o t : String} {i : Nat} (hk : zS[k]? = some (o, i, t)) : vk_R o i t (sa k) U := h.2.1 k _ hk
theorem kZ.u {sa : Nat → Nat} {A : Nat → Prop} {U : State} {H : Heap} (h : kZ sa A U H) : vx_Zq Bundle.tN "UNASSIGNED_STACK" Bundle.steD A U H := h.2.2.1
theorem kZ.n {sa : Nat → Nat} {A : Nat → Prop} {U : State} {H : Heap} (h : kZ sa A U H) : vx_Zq Bundle.tN "SUPPRESSED_SENTINEL" Bundle.listD A U H := h.2.2.2.1
theorem kZ.m {sa : Nat → Nat} {A : Nat → Prop} {U : State} {H : Heap} (h : kZ sa A U H) (w : Cond) (hw : w ∈ zW) : va_Nw w U := h.1 w hw
theorem kZ.f {sa : Nat → Nat} {A : Nat → Prop} {U : State} {H : Heap} (h : kZ sa A U H) (w : Cond) (hw : w ∈ zW) {args : Array Value} : w.before args U = true := va_Nw.use (zk_tab (List.all_eq_true.mp zW_ok w hw)) (h.1 w hw)
theorem kZ.c {sa : Nat → Nat} {A : Nat → Prop} {U : State} {H : Heap} (h : kZ sa A U H) {E nm : String} (hw : (E, nm) ∈ zN) : va_Nc E nm U := h.2.2.2.2 _ hw
theorem kZ.same {sa : Nat → Nat} {A : Nat → Prop} {U U2 : State} (h : kZ sa A U U.heap) (hv : U.vm = U2.vm) (hh : U.heap = U2.heap) : kZ sa A U2 U2.heap := by
  have ha : U.vm.Alike U2.vm := by rw [hv]; exact Vm.Alike.refl _
  obtain ⟨h1, h2, h3, h4, h5⟩ := h
  refine ⟨fun w hw => zk_same (List.all_eq_true.mp zW_ok w hw) hv (h1 w hw), fun k q hk => vk_R.same hv.symm (h2 k q hk), ?_, ?_, fun q hq => va_Nc.moved ha (h5 q hq)⟩
  · rw [← hh]; exact vx_Zq.moved ha h3
  · rw [← hh]; exact vx_Zq.moved ha h4
theorem kZ.pass {sa : Nat → Nat} {A A2 : Nat → Prop} {s U : State} {H : Heap} {locs : List Loc} (h : kZ sa A s s.heap) (hS : va_S A s.heap H locs) (hF : ∀ q, A2 q → A q) (hU : U.heap = H) (hW : s.WarmedH U.vm) : kZ sa A2 U U.heap := by
  obtain ⟨h1, h2, h3, h4, h5⟩ := h
  refine ⟨fun w hw => zk_warm (List.all_eq_true.mp zW_ok w hw) hW (h1 w hw), fun k q hk => vk_R.warm hW (h2 k q hk), ?_, ?_, fun q hq => va_Nc.moved hW.alike (h5 q hq)⟩
  · rw [hU]; exact vx_Zq.moved hW.alike ((h3.kept hS.2.1).narrow hF)
  · rw [hU]; exact vx_Zq.moved hW.alike ((h4.kept hS.2.1).narrow hF)
def kP (D : va_G) (sa : Nat → Nat) (tys : List (ClassId × FieldType)) (ws : va_W) (sz : Nat) (U : State) : Prop :=
  U.heap.size = sz ∧ va_P D classes ws U.heap ∧ va_K D classes tys U ∧ va_D (fun _ => True) ws ∧ kZ sa (va_A ws sz) U U.heap
theorem kP.blind {D : va_G} {sa : Nat → Nat} {tys : List (ClassId × FieldType)} {ws : va_W} {sz : Nat} {av : List Value} : FrameBlind (va_Pc av (kP D sa tys ws sz)) := fun a U g mk q => by
  obtain ⟨q0, q1, qP, qK, qD, qZ⟩ := q
  exact ⟨q0, q1, qP, va_K.moved (u := U) (U := U.calling g mk a) (Vm.Alike.refl U.vm) qK, qD, kZ.same qZ rfl rfl⟩
theorem kP.of {D : va_G} {sa : Nat → Nat} {tys : List (ClassId × FieldType)} {wc : va_W} {s : State} {H : Heap} {A : Nat → Prop} {locs : List Loc} {av : List Value} (hK : va_K D classes tys s) (hP : va_P D classes wc H) (hD : va_D A wc) (hZ : kZ sa A s s.heap) (hS : va_S A s.heap H locs) (hF : ∀ q, va_A wc H.size q → A q) :
    ∀ U : State, U.heap = H → s.WarmedH U.vm → va_Pc av (kP D sa tys wc H.size) av.toArray U := fun U hU hW =>
  ⟨rfl, by rw [hU], by rw [hU]; exact hP, va_K.moved hW.alike hK, hD.weaken (fun _ _ _ _ => trivial), kZ.pass hZ hS hF hU hW⟩

theorem kw_14bcb724 : (Cond.arrayClass .boolean) ∈ WALL := wl 93 (by decide +kernel) rfl
theorem kw_8e969fb2 : (Cond.arrayClass .int) ∈ WALL := wl 92 (by decide +kernel) rfl
theorem kw_6933bd77 : (Cond.arrayClass .long) ∈ WALL := wl 658 (by decide +kernel) rfl
theorem kw_1c55dc5d : (Cond.classLink R_C 166 "java/util/NoSuchElementException") ∈ WALL := wl 196 (by decide +kernel) rfl
theorem kw_a5dd1584 : (Cond.classLink R_C 175 "java/lang/ArithmeticException") ∈ WALL := wl 329 (by decide +kernel) rfl
theorem kw_aeaad32e : (Cond.classLink R_C 45 R_P) ∈ WALL := wl 57 (by decide +kernel) rfl
theorem kw_fc879798 : (Cond.classLink R_C 60 "java/lang/IllegalStateException") ∈ WALL := wl 285 (by decide +kernel) rfl
theorem kw_86e82813 : (Cond.classLink R_C 71 "java/lang/UnsupportedOperationException") ∈ WALL := wl 301 (by decide +kernel) rfl
theorem kw_bedd2d32 : (Cond.classLink R_C 79 "java/lang/IllegalArgumentException") ∈ WALL := wl 269 (by decide +kernel) rfl
theorem kw_2b9ca627 : (Cond.classLink R_L 13 "java/util/NoSuchElementException") ∈ WALL := wl 180 (by decide +kernel) rfl
theorem kw_0cdcea8a : (Cond.classLink R_L 15 "java/lang/IllegalArgumentException") ∈ WALL := wl 181 (by decide +kernel) rfl
theorem kw_4844d534 : (Cond.classLink R_L 17 "java/lang/IllegalStateException") ∈ WALL := wl 182 (by decide +kernel) rfl
theorem kw_d0c12807 : (Cond.classLink R_L 19 "java/lang/UnsupportedOperationException") ∈ WALL := wl 183 (by decide +kernel) rfl
theorem kw_552ab218 : (Cond.classLink R_L 25 "java/lang/ArithmeticException") ∈ WALL := wl 320 (by decide +kernel) rfl
theorem kw_2bfa8638 : (Cond.classLink R_L 68 R_M) ∈ WALL := wl 481 (by decide +kernel) rfl
theorem kw_d5282b1c : (Cond.classLink R_L 8 R_C) ∈ WALL := wl 43 (by decide +kernel) rfl
set_option maxRecDepth 20000 in
theorem kw_970e918a : (Cond.code Lib.Math.abs.name Lib.Math.abs.code 1 (some .int)) ∈ WALL := wl 356 rfl rfl
set_option maxRecDepth 20000 in
theorem kw_6b973c1b : (Cond.code Lib.Math.max.name Lib.Math.max.code 2 (some .int)) ∈ WALL := wl 56 rfl rfl
set_option maxRecDepth 20000 in
theorem kw_5e99ca5e : (Cond.code Lib.Math.min.name Lib.Math.min.code 2 (some .int)) ∈ WALL := wl 53 rfl rfl
set_option maxRecDepth 20000 in
theorem kw_bd0ebf18 : (Cond.code objectInit ⟨#[0xb1]⟩ 1 none) ∈ WALL := wl 50 rfl rfl
theorem kw_15832a1e : (Cond.constant R_M 93 1000000) ∈ WALL := wl 589 (by decide +kernel) rfl
theorem kw_f614f36e : (Cond.fieldLink R_C 108 R_C "listed" "I") ∈ WALL := wl 103 (by decide +kernel) rfl
theorem kw_99734f87 : (Cond.fieldLink R_C 13 R_C "shelfAt" "[I") ∈ WALL := wl 96 (by decide +kernel) rfl
theorem kw_0d27b205 : (Cond.fieldLink R_C 144 R_C "fetched" "I") ∈ WALL := wl 106 (by decide +kernel) rfl
theorem kw_932815e5 : (Cond.fieldLink R_C 16 R_C "isBlocked" "[Z") ∈ WALL := wl 97 (by decide +kernel) rfl
theorem kw_03cac826 : (Cond.fieldLink R_C 20 R_C "shelfOf" "[I") ∈ WALL := wl 98 (by decide +kernel) rfl
theorem kw_bfd2040d : (Cond.fieldLink R_C 23 R_C "counts" "[I") ∈ WALL := wl 99 (by decide +kernel) rfl
theorem kw_16524bf0 : (Cond.fieldLink R_C 26 R_C "isOpen" "[Z") ∈ WALL := wl 100 (by decide +kernel) rfl
theorem kw_01782700 : (Cond.fieldLink R_C 29 R_C "list" "[I") ∈ WALL := wl 101 (by decide +kernel) rfl
theorem kw_e5f6e787 : (Cond.fieldLink R_C 41 R_C "places" "I") ∈ WALL := wl 94 (by decide +kernel) rfl
theorem kw_e53eb332 : (Cond.fieldLink R_C 50 R_C "planner" "LCarouselRows$Planner;") ∈ WALL := wl 102 (by decide +kernel) rfl
theorem kw_e1db8a3f : (Cond.fieldLink R_C 87 R_C "front" "I") ∈ WALL := wl 104 (by decide +kernel) rfl
theorem kw_47d73e1c : (Cond.fieldLink R_C 9 R_C "placeOf" "[I") ∈ WALL := wl 95 (by decide +kernel) rfl
theorem kw_dae667e5 : (Cond.fieldLink R_C 94 R_C "turns" "I") ∈ WALL := wl 105 (by decide +kernel) rfl
theorem kw_6549c401 : (Cond.fieldLink R_M 13 R_M "front" "I") ∈ WALL := wl 489 (by decide +kernel) rfl
theorem kw_1dda6185 : (Cond.fieldLink R_M 16 R_M "placeOf" "[I") ∈ WALL := wl 490 (by decide +kernel) rfl
theorem kw_f6907c18 : (Cond.fieldLink R_M 20 R_M "blockedShelf" "[Z") ∈ WALL := wl 491 (by decide +kernel) rfl
theorem kw_7ca6b28c : (Cond.fieldLink R_M 24 R_M "on" "[I") ∈ WALL := wl 492 (by decide +kernel) rfl
theorem kw_0595da16 : (Cond.fieldLink R_M 27 R_M "counts" "[I") ∈ WALL := wl 493 (by decide +kernel) rfl
theorem kw_e8c36500 : (Cond.fieldLink R_M 30 R_M "doors" "[Z") ∈ WALL := wl 494 (by decide +kernel) rfl
theorem kw_eb9287c1 : (Cond.fieldLink R_M 33 R_M "turns" "I") ∈ WALL := wl 495 (by decide +kernel) rfl
theorem kw_1cf9ce30 : (Cond.fieldLink R_M 36 R_M "fetched" "I") ∈ WALL := wl 496 (by decide +kernel) rfl
theorem kw_e21e5c24 : (Cond.fieldLink R_M 39 R_M "listed" "I") ∈ WALL := wl 497 (by decide +kernel) rfl
theorem kw_0bf6b78c : (Cond.fieldLink R_M 42 R_M "list" "[I") ∈ WALL := wl 498 (by decide +kernel) rfl
theorem kw_29a007b6 : (Cond.fieldLink R_M 45 R_M "planned" "I") ∈ WALL := wl 499 (by decide +kernel) rfl
theorem kw_f176d92d : (Cond.fieldLink R_M 48 R_M "plan" "[I") ∈ WALL := wl 500 (by decide +kernel) rfl
theorem kw_685c8329 : (Cond.fieldLink R_M 51 R_M "wasExact" "Z") ∈ WALL := wl 501 (by decide +kernel) rfl
theorem kw_545b2532 : (Cond.fieldLink R_M 55 R_M "shelves" "I") ∈ WALL := wl 502 (by decide +kernel) rfl
theorem kw_97fc661c : (Cond.fieldLink R_M 58 R_M "shelf" "[I") ∈ WALL := wl 503 (by decide +kernel) rfl
theorem kw_b638f234 : (Cond.fieldLink R_M 61 R_M "trial" "[I") ∈ WALL := wl 504 (by decide +kernel) rfl
theorem kw_7139d127 : (Cond.fieldLink R_M 64 R_M "places" "I") ∈ WALL := wl 488 (by decide +kernel) rfl
theorem kw_8fca7397 : (Cond.fieldLink R_M 7 R_M "thrownCode" "I") ∈ WALL := wl 487 (by decide +kernel) rfl
theorem kw_ef43ea25 : (Cond.fieldLink R_P 15 R_P "stopPlaces" "[I") ∈ WALL := wl 65 (by decide +kernel) rfl
theorem kw_16ad6009 : (Cond.fieldLink R_P 18 R_P "taken" "[Z") ∈ WALL := wl 66 (by decide +kernel) rfl
theorem kw_ae787081 : (Cond.fieldLink R_P 22 R_P "trial" "[I") ∈ WALL := wl 67 (by decide +kernel) rfl
theorem kw_9ed59189 : (Cond.fieldLink R_P 25 R_P "best" "[I") ∈ WALL := wl 68 (by decide +kernel) rfl
theorem kw_37ce28d0 : (Cond.fieldLink R_P 28 R_P "ring" "I") ∈ WALL := wl 63 (by decide +kernel) rfl
theorem kw_b8fa4191 : (Cond.fieldLink R_P 32 R_P "stops" "I") ∈ WALL := wl 69 (by decide +kernel) rfl
theorem kw_076ea5fa : (Cond.fieldLink R_P 35 R_P "isExact" "Z") ∈ WALL := wl 71 (by decide +kernel) rfl
theorem kw_a1bcfc1f : (Cond.fieldLink R_P 39 R_P "fewest" "I") ∈ WALL := wl 70 (by decide +kernel) rfl
theorem kw_504cce82 : (Cond.fieldLink R_P 9 R_P "shelves" "[I") ∈ WALL := wl 64 (by decide +kernel) rfl
theorem kw_c3a505c8 : (Cond.initialized "java/lang/ArithmeticException") ∈ WALL := wl 41 (by decide +kernel) rfl
theorem kw_ed8d893e : (Cond.initialized "java/lang/IllegalArgumentException") ∈ WALL := wl 38 (by decide +kernel) rfl
theorem kw_f529d838 : (Cond.initialized "java/lang/IllegalStateException") ∈ WALL := wl 39 (by decide +kernel) rfl
theorem kw_0001fcaa : (Cond.initialized "java/lang/Math") ∈ WALL := wl 31 (by decide +kernel) rfl
theorem kw_3f8a6f3e : (Cond.initialized "java/lang/System") ∈ WALL := wl 42 (by decide +kernel) rfl
theorem kw_a11b00ad : (Cond.initialized "java/lang/UnsupportedOperationException") ∈ WALL := wl 40 (by decide +kernel) rfl
theorem kw_0abfe39d : (Cond.initialized "java/util/NoSuchElementException") ∈ WALL := wl 37 (by decide +kernel) rfl
theorem kw_91859716 : (Cond.initialized R_C) ∈ WALL := wl 30 (by decide +kernel) rfl
theorem kw_0e3445ad : (Cond.initialized R_L) ∈ WALL := wl 29 (by decide +kernel) rfl
theorem kw_98028344 : (Cond.initialized R_M) ∈ WALL := wl 33 (by decide +kernel) rfl
theorem kw_9924c1cf : (Cond.initialized R_P) ∈ WALL := wl 32 (by decide +kernel) rfl
theorem kw_99ff6a43 : (Cond.instanceMethod objectInit) ∈ WALL := wl 49 (by decide +kernel) rfl
theorem kw_1e17261d : (Cond.instanceMethod y_C_at) ∈ WALL := wl 135 (by decide +kernel) rfl
theorem kw_e13dfc98 : (Cond.instanceMethod y_C_blocked) ∈ WALL := wl 448 (by decide +kernel) rfl
theorem kw_46d4190f : (Cond.instanceMethod y_C_canBeFetched) ∈ WALL := wl 366 (by decide +kernel) rfl
theorem kw_bb40d932 : (Cond.instanceMethod y_C_clear) ∈ WALL := wl 147 (by decide +kernel) rfl
theorem kw_4b43e3ff : (Cond.instanceMethod y_C_count) ∈ WALL := wl 163 (by decide +kernel) rfl
theorem kw_f2104014 : (Cond.instanceMethod y_C_countsOn) ∈ WALL := wl 160 (by decide +kernel) rfl
theorem kw_29446660 : (Cond.instanceMethod y_C_days) ∈ WALL := wl 455 (by decide +kernel) rfl
theorem kw_e5c18161 : (Cond.instanceMethod y_C_door) ∈ WALL := wl 429 (by decide +kernel) rfl
theorem kw_c9dad0c2 : (Cond.instanceMethod y_C_exact) ∈ WALL := wl 143 (by decide +kernel) rfl
theorem kw_f343cd58 : (Cond.instanceMethod y_C_holdsListed) ∈ WALL := wl 386 (by decide +kernel) rfl
theorem kw_0e0833a0 : (Cond.instanceMethod y_C_init) ∈ WALL := wl 46 (by decide +kernel) rfl
theorem kw_74eed08a : (Cond.instanceMethod y_C_isListed) ∈ WALL := wl 371 (by decide +kernel) rfl
theorem kw_f33cf349 : (Cond.instanceMethod y_C_isShelf) ∈ WALL := wl 194 (by decide +kernel) rfl
theorem kw_9bc52af2 : (Cond.instanceMethod y_C_learned) ∈ WALL := wl 463 (by decide +kernel) rfl
theorem kw_10510dee : (Cond.instanceMethod y_C_move) ∈ WALL := wl 436 (by decide +kernel) rfl
theorem kw_cd61010c : (Cond.instanceMethod y_C_needClosedDoors) ∈ WALL := wl 348 (by decide +kernel) rfl
theorem kw_c86b930e : (Cond.instanceMethod y_C_needPlaces) ∈ WALL := wl 327 (by decide +kernel) rfl
theorem kw_1b9f8d0a : (Cond.instanceMethod y_C_needShelf) ∈ WALL := wl 190 (by decide +kernel) rfl
theorem kw_f96db60d : (Cond.instanceMethod y_C_pick) ∈ WALL := wl 416 (by decide +kernel) rfl
theorem kw_891ab2e7 : (Cond.instanceMethod y_C_plan) ∈ WALL := wl 379 (by decide +kernel) rfl
theorem kw_01d7ee6d : (Cond.instanceMethod y_C_put) ∈ WALL := wl 185 (by decide +kernel) rfl
theorem kw_ae49e9d4 : (Cond.instanceMethod y_C_rest) ∈ WALL := wl 155 (by decide +kernel) rfl
theorem kw_39a44ad9 : (Cond.instanceMethod y_C_setPlace) ∈ WALL := wl 442 (by decide +kernel) rfl
theorem kw_f7bb29fd : (Cond.instanceMethod y_C_shelf) ∈ WALL := wl 470 (by decide +kernel) rfl
theorem kw_4d7ce175 : (Cond.instanceMethod y_C_turn) ∈ WALL := wl 322 (by decide +kernel) rfl
theorem kw_fb4a503c : (Cond.instanceMethod y_C_unit) ∈ WALL := wl 478 (by decide +kernel) rfl
theorem kw_6fa1b578 : (Cond.instanceMethod y_C_unitsOn) ∈ WALL := wl 172 (by decide +kernel) rfl
theorem kw_6e6ea7bf : (Cond.instanceMethod y_C_unitsOnShelves) ∈ WALL := wl 168 (by decide +kernel) rfl
theorem kw_c791f25b : (Cond.instanceMethod y_C_want) ∈ WALL := wl 361 (by decide +kernel) rfl
theorem kw_802bee30 : (Cond.instanceMethod y_M_anyDoor) ∈ WALL := wl 563 (by decide +kernel) rfl
theorem kw_10b346d2 : (Cond.instanceMethod y_M_at) ∈ WALL := wl 599 (by decide +kernel) rfl
theorem kw_ff35c30a : (Cond.instanceMethod y_M_blocked) ∈ WALL := wl 627 (by decide +kernel) rfl
theorem kw_87e38f6a : (Cond.instanceMethod y_M_byRule) ∈ WALL := wl 587 (by decide +kernel) rfl
theorem kw_34dac4ea : (Cond.instanceMethod y_M_clear) ∈ WALL := wl 607 (by decide +kernel) rfl
theorem kw_a62bd878 : (Cond.instanceMethod y_M_count) ∈ WALL := wl 655 (by decide +kernel) rfl
theorem kw_d78678a6 : (Cond.instanceMethod y_M_days) ∈ WALL := wl 631 (by decide +kernel) rfl
theorem kw_0c4e16f1 : (Cond.instanceMethod y_M_distance) ∈ WALL := wl 567 (by decide +kernel) rfl
theorem kw_1c55c8a8 : (Cond.instanceMethod y_M_door) ∈ WALL := wl 619 (by decide +kernel) rfl
theorem kw_68542bf3 : (Cond.instanceMethod y_M_exact) ∈ WALL := wl 603 (by decide +kernel) rfl
theorem kw_c9cb4311 : (Cond.instanceMethod y_M_findShelves) ∈ WALL := wl 583 (by decide +kernel) rfl
theorem kw_f339ba3f : (Cond.instanceMethod y_M_init) ∈ WALL := wl 484 (by decide +kernel) rfl
theorem kw_4d75b3d7 : (Cond.instanceMethod y_M_isListed) ∈ WALL := wl 575 (by decide +kernel) rfl
theorem kw_9512f407 : (Cond.instanceMethod y_M_learned) ∈ WALL := wl 635 (by decide +kernel) rfl
theorem kw_f4b7001a : (Cond.instanceMethod y_M_lying) ∈ WALL := wl 555 (by decide +kernel) rfl
theorem kw_b6d3adf1 : (Cond.instanceMethod y_M_move) ∈ WALL := wl 623 (by decide +kernel) rfl
theorem kw_9205f267 : (Cond.instanceMethod y_M_pick) ∈ WALL := wl 611 (by decide +kernel) rfl
theorem kw_9d38fbc5 : (Cond.instanceMethod y_M_plan) ∈ WALL := wl 578 (by decide +kernel) rfl
theorem kw_ee3bfd68 : (Cond.instanceMethod y_M_put) ∈ WALL := wl 547 (by decide +kernel) rfl
theorem kw_e97fba57 : (Cond.instanceMethod y_M_rest) ∈ WALL := wl 639 (by decide +kernel) rfl
theorem kw_abbf9aba : (Cond.instanceMethod y_M_shelf) ∈ WALL := wl 647 (by decide +kernel) rfl
theorem kw_e1efd25d : (Cond.instanceMethod y_M_shelfAt) ∈ WALL := wl 616 (by decide +kernel) rfl
theorem kw_808ee35e : (Cond.instanceMethod y_M_sum) ∈ WALL := wl 644 (by decide +kernel) rfl
theorem kw_af902a14 : (Cond.instanceMethod y_M_theOrder) ∈ WALL := wl 592 (by decide +kernel) rfl
theorem kw_f28c3bdd : (Cond.instanceMethod y_M_thrown) ∈ WALL := wl 543 (by decide +kernel) rfl
theorem kw_c784bd82 : (Cond.instanceMethod y_M_turn) ∈ WALL := wl 558 (by decide +kernel) rfl
theorem kw_f130ee31 : (Cond.instanceMethod y_M_turnsOf) ∈ WALL := wl 596 (by decide +kernel) rfl
theorem kw_77feea31 : (Cond.instanceMethod y_M_unit) ∈ WALL := wl 651 (by decide +kernel) rfl
theorem kw_97dcbc10 : (Cond.instanceMethod y_M_want) ∈ WALL := wl 570 (by decide +kernel) rfl
theorem kw_2524d7b4 : (Cond.instanceMethod y_P_addStop) ∈ WALL := wl 390 (by decide +kernel) rfl
theorem kw_2ea75e25 : (Cond.instanceMethod y_P_followRule) ∈ WALL := wl 406 (by decide +kernel) rfl
theorem kw_6b19e3e1 : (Cond.instanceMethod y_P_forget) ∈ WALL := wl 152 (by decide +kernel) rfl
theorem kw_1aaf7749 : (Cond.instanceMethod y_P_init) ∈ WALL := wl 60 (by decide +kernel) rfl
theorem kw_47a0f71c : (Cond.instanceMethod y_P_nearest) ∈ WALL := wl 410 (by decide +kernel) rfl
theorem kw_67d6dcb5 : (Cond.instanceMethod y_P_order) ∈ WALL := wl 394 (by decide +kernel) rfl
theorem kw_bfa74f19 : (Cond.instanceMethod y_P_shelfOfStop) ∈ WALL := wl 140 (by decide +kernel) rfl
theorem kw_00ff1f91 : (Cond.instanceMethod y_P_tryAll) ∈ WALL := wl 398 (by decide +kernel) rfl
theorem kw_0a9a11c4 : (Cond.instantiable R_C 13) ∈ WALL := wl 44 (by decide +kernel) rfl
theorem kw_3e27e56b : (Cond.instantiable R_M 18) ∈ WALL := wl 482 (by decide +kernel) rfl
theorem kw_cf97c395 : (Cond.instantiable R_P 9) ∈ WALL := wl 58 (by decide +kernel) rfl
theorem kw_e90156ff : (Cond.methodLink R_C 1 objectInit) ∈ WALL := wl 48 (by decide +kernel) rfl
theorem kw_77318b93 : (Cond.methodLink R_C 103 y_C_isListed) ∈ WALL := wl 369 (by decide +kernel) rfl
theorem kw_17813e17 : (Cond.methodLink R_C 120 y_C_holdsListed) ∈ WALL := wl 384 (by decide +kernel) rfl
theorem kw_39c05284 : (Cond.methodLink R_C 137 y_C_needStation) ∈ WALL := wl 419 (by decide +kernel) rfl
theorem kw_7675e259 : (Cond.methodLink R_C 149 y_C_setPlace) ∈ WALL := wl 440 (by decide +kernel) rfl
theorem kw_23accbdb : (Cond.methodLink R_C 154 y_C_countsOn) ∈ WALL := wl 158 (by decide +kernel) rfl
theorem kw_9463228b : (Cond.methodLink R_C 159 y_C_unitsOnShelves) ∈ WALL := wl 166 (by decide +kernel) rfl
theorem kw_d0c9425a : (Cond.methodLink R_C 163 y_C_isShelf) ∈ WALL := wl 192 (by decide +kernel) rfl
theorem kw_6f87b927 : (Cond.methodLink R_C 182 Lib.Math.abs.name) ∈ WALL := wl 354 (by decide +kernel) rfl
theorem kw_7bbf47ee : (Cond.methodLink R_C 32 Lib.Math.min.name) ∈ WALL := wl 51 (by decide +kernel) rfl
theorem kw_7cc1363c : (Cond.methodLink R_C 38 Lib.Math.max.name) ∈ WALL := wl 54 (by decide +kernel) rfl
theorem kw_d3d87068 : (Cond.methodLink R_C 54 y_C_needShelf) ∈ WALL := wl 188 (by decide +kernel) rfl
theorem kw_1da68db5 : (Cond.methodLink R_C 57 y_C_needUnit) ∈ WALL := wl 266 (by decide +kernel) rfl
theorem kw_078fa5c8 : (Cond.methodLink R_C 67 y_C_unitsOn) ∈ WALL := wl 170 (by decide +kernel) rfl
theorem kw_f3a0b8b0 : (Cond.methodLink R_C 76 y_C_needPlaces) ∈ WALL := wl 325 (by decide +kernel) rfl
theorem kw_728395d1 : (Cond.methodLink R_C 84 y_C_needClosedDoors) ∈ WALL := wl 346 (by decide +kernel) rfl
theorem kw_0b661e38 : (Cond.methodLink R_C 90 y_C_distance) ∈ WALL := wl 351 (by decide +kernel) rfl
theorem kw_ecaa8e97 : (Cond.methodLink R_C 97 y_C_canBeFetched) ∈ WALL := wl 364 (by decide +kernel) rfl
theorem kw_4aeddf4a : (Cond.methodLink R_L 101 y_M_clear) ∈ WALL := wl 606 (by decide +kernel) rfl
theorem kw_eaa0324f : (Cond.methodLink R_L 102 y_L_pick) ∈ WALL := wl 412 (by decide +kernel) rfl
theorem kw_df5d5907 : (Cond.methodLink R_L 104 y_M_pick) ∈ WALL := wl 610 (by decide +kernel) rfl
theorem kw_e7ae4e77 : (Cond.methodLink R_L 105 y_L_door) ∈ WALL := wl 425 (by decide +kernel) rfl
theorem kw_f44cbb1a : (Cond.methodLink R_L 108 y_M_door) ∈ WALL := wl 618 (by decide +kernel) rfl
theorem kw_d7ccc978 : (Cond.methodLink R_L 109 y_L_move) ∈ WALL := wl 432 (by decide +kernel) rfl
theorem kw_23b4705a : (Cond.methodLink R_L 111 y_M_move) ∈ WALL := wl 622 (by decide +kernel) rfl
theorem kw_6d0d72a1 : (Cond.methodLink R_L 112 y_L_blocked) ∈ WALL := wl 444 (by decide +kernel) rfl
theorem kw_a37a927f : (Cond.methodLink R_L 114 y_M_blocked) ∈ WALL := wl 626 (by decide +kernel) rfl
theorem kw_9a587262 : (Cond.methodLink R_L 115 y_L_days) ∈ WALL := wl 451 (by decide +kernel) rfl
theorem kw_41f23253 : (Cond.methodLink R_L 118 y_M_days) ∈ WALL := wl 630 (by decide +kernel) rfl
theorem kw_f1b12b07 : (Cond.methodLink R_L 119 y_L_learned) ∈ WALL := wl 459 (by decide +kernel) rfl
theorem kw_d816329f : (Cond.methodLink R_L 121 y_M_learned) ∈ WALL := wl 634 (by decide +kernel) rfl
theorem kw_6acf3e11 : (Cond.methodLink R_L 122 y_C_rest) ∈ WALL := wl 154 (by decide +kernel) rfl
theorem kw_70e5ca1e : (Cond.methodLink R_L 125 y_M_rest) ∈ WALL := wl 638 (by decide +kernel) rfl
theorem kw_a8e3f552 : (Cond.methodLink R_L 126 y_L_shelf) ∈ WALL := wl 466 (by decide +kernel) rfl
theorem kw_92fa0acc : (Cond.methodLink R_L 128 y_M_shelf) ∈ WALL := wl 646 (by decide +kernel) rfl
theorem kw_c009dd21 : (Cond.methodLink R_L 129 y_L_unit) ∈ WALL := wl 474 (by decide +kernel) rfl
theorem kw_32444935 : (Cond.methodLink R_L 131 y_M_unit) ∈ WALL := wl 650 (by decide +kernel) rfl
theorem kw_230e9c3b : (Cond.methodLink R_L 132 y_C_count) ∈ WALL := wl 162 (by decide +kernel) rfl
theorem kw_23222f73 : (Cond.methodLink R_L 135 y_M_count) ∈ WALL := wl 654 (by decide +kernel) rfl
theorem kw_060ec2cf : (Cond.methodLink R_L 21 y_C_turn) ∈ WALL := wl 321 (by decide +kernel) rfl
theorem kw_11d20121 : (Cond.methodLink R_L 27 y_C_want) ∈ WALL := wl 360 (by decide +kernel) rfl
theorem kw_38081c9e : (Cond.methodLink R_L 30 y_C_plan) ∈ WALL := wl 378 (by decide +kernel) rfl
theorem kw_b4c32396 : (Cond.methodLink R_L 33 y_C_pick) ∈ WALL := wl 415 (by decide +kernel) rfl
theorem kw_9b586c6d : (Cond.methodLink R_L 37 y_C_door) ∈ WALL := wl 428 (by decide +kernel) rfl
theorem kw_7a30c32c : (Cond.methodLink R_L 41 y_C_move) ∈ WALL := wl 435 (by decide +kernel) rfl
theorem kw_c40a671c : (Cond.methodLink R_L 44 y_C_blocked) ∈ WALL := wl 447 (by decide +kernel) rfl
theorem kw_28af114f : (Cond.methodLink R_L 47 y_C_days) ∈ WALL := wl 454 (by decide +kernel) rfl
theorem kw_1da5e6bb : (Cond.methodLink R_L 51 y_C_learned) ∈ WALL := wl 462 (by decide +kernel) rfl
theorem kw_3fc3b901 : (Cond.methodLink R_L 54 y_C_shelf) ∈ WALL := wl 469 (by decide +kernel) rfl
theorem kw_bc1c81aa : (Cond.methodLink R_L 57 y_C_unit) ∈ WALL := wl 477 (by decide +kernel) rfl
theorem kw_3e2aed7b : (Cond.methodLink R_L 60 y_L_cell) ∈ WALL := wl 174 (by decide +kernel) rfl
theorem kw_5b699099 : (Cond.methodLink R_L 66 y_C_init) ∈ WALL := wl 45 (by decide +kernel) rfl
theorem kw_ba583d9f : (Cond.methodLink R_L 7 y_C_put) ∈ WALL := wl 184 (by decide +kernel) rfl
theorem kw_7e4b963c : (Cond.methodLink R_L 70 y_M_init) ∈ WALL := wl 483 (by decide +kernel) rfl
theorem kw_dedd4ab4 : (Cond.methodLink R_L 71 y_L_put) ∈ WALL := wl 177 (by decide +kernel) rfl
theorem kw_0e375627 : (Cond.methodLink R_L 74 y_M_put) ∈ WALL := wl 546 (by decide +kernel) rfl
theorem kw_f9e51d48 : (Cond.methodLink R_L 75 y_M_thrown) ∈ WALL := wl 542 (by decide +kernel) rfl
theorem kw_440db1ca : (Cond.methodLink R_L 79 y_L_turn) ∈ WALL := wl 317 (by decide +kernel) rfl
theorem kw_d27e86fd : (Cond.methodLink R_L 82 y_M_turn) ∈ WALL := wl 557 (by decide +kernel) rfl
theorem kw_7962d8ab : (Cond.methodLink R_L 83 y_L_want) ∈ WALL := wl 357 (by decide +kernel) rfl
theorem kw_79040938 : (Cond.methodLink R_L 85 y_M_want) ∈ WALL := wl 569 (by decide +kernel) rfl
theorem kw_b048f031 : (Cond.methodLink R_L 86 y_L_plan) ∈ WALL := wl 375 (by decide +kernel) rfl
theorem kw_109f5c84 : (Cond.methodLink R_L 88 y_M_plan) ∈ WALL := wl 577 (by decide +kernel) rfl
theorem kw_1b994be4 : (Cond.methodLink R_L 89 y_C_at) ∈ WALL := wl 134 (by decide +kernel) rfl
theorem kw_b5071e67 : (Cond.methodLink R_L 92 y_M_at) ∈ WALL := wl 598 (by decide +kernel) rfl
theorem kw_dc1b6ae8 : (Cond.methodLink R_L 93 y_C_exact) ∈ WALL := wl 142 (by decide +kernel) rfl
theorem kw_8f33ce65 : (Cond.methodLink R_L 97 y_M_exact) ∈ WALL := wl 602 (by decide +kernel) rfl
theorem kw_9a69c4b6 : (Cond.methodLink R_L 98 y_C_clear) ∈ WALL := wl 146 (by decide +kernel) rfl
theorem kw_5e76c081 : (Cond.methodLink R_M 1 objectInit) ∈ WALL := wl 486 (by decide +kernel) rfl
theorem kw_def9765c : (Cond.methodLink R_M 102 y_M_shelfAt) ∈ WALL := wl 614 (by decide +kernel) rfl
theorem kw_70e012d2 : (Cond.methodLink R_M 105 y_M_sum) ∈ WALL := wl 642 (by decide +kernel) rfl
theorem kw_850ee39e : (Cond.methodLink R_M 67 y_M_distance) ∈ WALL := wl 565 (by decide +kernel) rfl
theorem kw_344abd76 : (Cond.methodLink R_M 71 y_M_none) ∈ WALL := wl 550 (by decide +kernel) rfl
theorem kw_b7f6d692 : (Cond.methodLink R_M 75 y_M_lying) ∈ WALL := wl 553 (by decide +kernel) rfl
theorem kw_e1054515 : (Cond.methodLink R_M 79 y_M_anyDoor) ∈ WALL := wl 561 (by decide +kernel) rfl
theorem kw_a1676723 : (Cond.methodLink R_M 83 y_M_isListed) ∈ WALL := wl 573 (by decide +kernel) rfl
theorem kw_25f10960 : (Cond.methodLink R_M 87 y_M_findShelves) ∈ WALL := wl 581 (by decide +kernel) rfl
theorem kw_826bfe44 : (Cond.methodLink R_M 90 y_M_byRule) ∈ WALL := wl 585 (by decide +kernel) rfl
theorem kw_1ea846db : (Cond.methodLink R_M 94 y_M_theOrder) ∈ WALL := wl 590 (by decide +kernel) rfl
theorem kw_f892f1c9 : (Cond.methodLink R_M 98 y_M_turnsOf) ∈ WALL := wl 594 (by decide +kernel) rfl
theorem kw_109232b5 : (Cond.methodLink R_P 3 objectInit) ∈ WALL := wl 62 (by decide +kernel) rfl
theorem kw_4325268a : (Cond.methodLink R_P 42 y_P_tryAll) ∈ WALL := wl 396 (by decide +kernel) rfl
theorem kw_7a4e9f0a : (Cond.methodLink R_P 46 y_P_followRule) ∈ WALL := wl 404 (by decide +kernel) rfl
theorem kw_c2eb4c85 : (Cond.methodLink R_P 50 arraycopyName) ∈ WALL := wl 400 (by decide +kernel) rfl
theorem kw_27f09d39 : (Cond.methodLink R_P 60 y_P_nearest) ∈ WALL := wl 408 (by decide +kernel) rfl
theorem kw_66773d48 : (Cond.native arraycopyName) ∈ WALL := wl 402 (by decide +kernel) rfl
theorem kw_e223f9a8 : (Cond.selects R_C y_C_at y_C_at) ∈ WALL := wl 136 (by decide +kernel) rfl
theorem kw_72bc9aac : (Cond.selects R_C y_C_blocked y_C_blocked) ∈ WALL := wl 449 (by decide +kernel) rfl
theorem kw_cc11171f : (Cond.selects R_C y_C_canBeFetched y_C_canBeFetched) ∈ WALL := wl 10 (by decide +kernel) rfl
theorem kw_a7fce66c : (Cond.selects R_C y_C_clear y_C_clear) ∈ WALL := wl 148 (by decide +kernel) rfl
theorem kw_df8f0dbd : (Cond.selects R_C y_C_count y_C_count) ∈ WALL := wl 164 (by decide +kernel) rfl
theorem kw_37c7dc60 : (Cond.selects R_C y_C_countsOn y_C_countsOn) ∈ WALL := wl 2 (by decide +kernel) rfl
theorem kw_58d9b249 : (Cond.selects R_C y_C_days y_C_days) ∈ WALL := wl 456 (by decide +kernel) rfl
theorem kw_a6cff684 : (Cond.selects R_C y_C_door y_C_door) ∈ WALL := wl 430 (by decide +kernel) rfl
theorem kw_8e2af3d1 : (Cond.selects R_C y_C_exact y_C_exact) ∈ WALL := wl 144 (by decide +kernel) rfl
theorem kw_5a345678 : (Cond.selects R_C y_C_holdsListed y_C_holdsListed) ∈ WALL := wl 12 (by decide +kernel) rfl
theorem kw_cfe1f2c3 : (Cond.selects R_C y_C_isListed y_C_isListed) ∈ WALL := wl 11 (by decide +kernel) rfl
theorem kw_7ce3eb4a : (Cond.selects R_C y_C_isShelf y_C_isShelf) ∈ WALL := wl 6 (by decide +kernel) rfl
theorem kw_dedbcb90 : (Cond.selects R_C y_C_learned y_C_learned) ∈ WALL := wl 464 (by decide +kernel) rfl
theorem kw_30931f08 : (Cond.selects R_C y_C_move y_C_move) ∈ WALL := wl 437 (by decide +kernel) rfl
theorem kw_e9b58933 : (Cond.selects R_C y_C_needClosedDoors y_C_needClosedDoors) ∈ WALL := wl 9 (by decide +kernel) rfl
theorem kw_ab37399c : (Cond.selects R_C y_C_needPlaces y_C_needPlaces) ∈ WALL := wl 8 (by decide +kernel) rfl
theorem kw_d1e1ea5a : (Cond.selects R_C y_C_needShelf y_C_needShelf) ∈ WALL := wl 5 (by decide +kernel) rfl
theorem kw_7558db99 : (Cond.selects R_C y_C_pick y_C_pick) ∈ WALL := wl 417 (by decide +kernel) rfl
theorem kw_10811f77 : (Cond.selects R_C y_C_plan y_C_plan) ∈ WALL := wl 380 (by decide +kernel) rfl
theorem kw_3a639628 : (Cond.selects R_C y_C_put y_C_put) ∈ WALL := wl 186 (by decide +kernel) rfl
theorem kw_46206514 : (Cond.selects R_C y_C_rest y_C_rest) ∈ WALL := wl 156 (by decide +kernel) rfl
theorem kw_289dfdb9 : (Cond.selects R_C y_C_setPlace y_C_setPlace) ∈ WALL := wl 18 (by decide +kernel) rfl
theorem kw_def077b3 : (Cond.selects R_C y_C_shelf y_C_shelf) ∈ WALL := wl 471 (by decide +kernel) rfl
theorem kw_ca9069d5 : (Cond.selects R_C y_C_turn y_C_turn) ∈ WALL := wl 323 (by decide +kernel) rfl
theorem kw_80ab89db : (Cond.selects R_C y_C_unit y_C_unit) ∈ WALL := wl 479 (by decide +kernel) rfl
theorem kw_f7c9ea3c : (Cond.selects R_C y_C_unitsOn y_C_unitsOn) ∈ WALL := wl 4 (by decide +kernel) rfl
theorem kw_25b24219 : (Cond.selects R_C y_C_unitsOnShelves y_C_unitsOnShelves) ∈ WALL := wl 3 (by decide +kernel) rfl
theorem kw_64c94df4 : (Cond.selects R_C y_C_want y_C_want) ∈ WALL := wl 362 (by decide +kernel) rfl
theorem kw_08a6665f : (Cond.selects R_M y_M_anyDoor y_M_anyDoor) ∈ WALL := wl 20 (by decide +kernel) rfl
theorem kw_fbb2e433 : (Cond.selects R_M y_M_at y_M_at) ∈ WALL := wl 600 (by decide +kernel) rfl
theorem kw_47888135 : (Cond.selects R_M y_M_blocked y_M_blocked) ∈ WALL := wl 628 (by decide +kernel) rfl
theorem kw_b58c9fe1 : (Cond.selects R_M y_M_byRule y_M_byRule) ∈ WALL := wl 24 (by decide +kernel) rfl
theorem kw_ff46b1af : (Cond.selects R_M y_M_clear y_M_clear) ∈ WALL := wl 608 (by decide +kernel) rfl
theorem kw_e679d97b : (Cond.selects R_M y_M_count y_M_count) ∈ WALL := wl 656 (by decide +kernel) rfl
theorem kw_ed83efac : (Cond.selects R_M y_M_days y_M_days) ∈ WALL := wl 632 (by decide +kernel) rfl
theorem kw_70900a17 : (Cond.selects R_M y_M_distance y_M_distance) ∈ WALL := wl 21 (by decide +kernel) rfl
theorem kw_30915d10 : (Cond.selects R_M y_M_door y_M_door) ∈ WALL := wl 620 (by decide +kernel) rfl
theorem kw_19538c27 : (Cond.selects R_M y_M_exact y_M_exact) ∈ WALL := wl 604 (by decide +kernel) rfl
theorem kw_cf90987c : (Cond.selects R_M y_M_findShelves y_M_findShelves) ∈ WALL := wl 23 (by decide +kernel) rfl
theorem kw_b1c4c71d : (Cond.selects R_M y_M_isListed y_M_isListed) ∈ WALL := wl 22 (by decide +kernel) rfl
theorem kw_d2fb361d : (Cond.selects R_M y_M_learned y_M_learned) ∈ WALL := wl 636 (by decide +kernel) rfl
theorem kw_67ab8fea : (Cond.selects R_M y_M_lying y_M_lying) ∈ WALL := wl 19 (by decide +kernel) rfl
theorem kw_8ccbcf38 : (Cond.selects R_M y_M_move y_M_move) ∈ WALL := wl 624 (by decide +kernel) rfl
theorem kw_8ca127ad : (Cond.selects R_M y_M_pick y_M_pick) ∈ WALL := wl 612 (by decide +kernel) rfl
theorem kw_91b1ce12 : (Cond.selects R_M y_M_plan y_M_plan) ∈ WALL := wl 579 (by decide +kernel) rfl
theorem kw_407e9638 : (Cond.selects R_M y_M_put y_M_put) ∈ WALL := wl 548 (by decide +kernel) rfl
theorem kw_31f651b4 : (Cond.selects R_M y_M_rest y_M_rest) ∈ WALL := wl 640 (by decide +kernel) rfl
theorem kw_8529dd67 : (Cond.selects R_M y_M_shelf y_M_shelf) ∈ WALL := wl 648 (by decide +kernel) rfl
theorem kw_ec64152f : (Cond.selects R_M y_M_shelfAt y_M_shelfAt) ∈ WALL := wl 27 (by decide +kernel) rfl
theorem kw_f8086c65 : (Cond.selects R_M y_M_sum y_M_sum) ∈ WALL := wl 28 (by decide +kernel) rfl
theorem kw_1a4d3315 : (Cond.selects R_M y_M_theOrder y_M_theOrder) ∈ WALL := wl 25 (by decide +kernel) rfl
theorem kw_202e5eb5 : (Cond.selects R_M y_M_thrown y_M_thrown) ∈ WALL := wl 544 (by decide +kernel) rfl
theorem kw_d0527034 : (Cond.selects R_M y_M_turn y_M_turn) ∈ WALL := wl 559 (by decide +kernel) rfl
theorem kw_9db763cb : (Cond.selects R_M y_M_turnsOf y_M_turnsOf) ∈ WALL := wl 26 (by decide +kernel) rfl
theorem kw_e556868e : (Cond.selects R_M y_M_unit y_M_unit) ∈ WALL := wl 652 (by decide +kernel) rfl
theorem kw_e25603ad : (Cond.selects R_M y_M_want y_M_want) ∈ WALL := wl 571 (by decide +kernel) rfl
theorem kw_af73752d : (Cond.selects R_P y_P_addStop y_P_addStop) ∈ WALL := wl 13 (by decide +kernel) rfl
theorem kw_ef01abe9 : (Cond.selects R_P y_P_followRule y_P_followRule) ∈ WALL := wl 16 (by decide +kernel) rfl
theorem kw_9f896de2 : (Cond.selects R_P y_P_forget y_P_forget) ∈ WALL := wl 1 (by decide +kernel) rfl
theorem kw_d5745b98 : (Cond.selects R_P y_P_nearest y_P_nearest) ∈ WALL := wl 17 (by decide +kernel) rfl
theorem kw_79efb11e : (Cond.selects R_P y_P_order y_P_order) ∈ WALL := wl 14 (by decide +kernel) rfl
theorem kw_004ffb0f : (Cond.selects R_P y_P_shelfOfStop y_P_shelfOfStop) ∈ WALL := wl 0 (by decide +kernel) rfl
theorem kw_97660d27 : (Cond.selects R_P y_P_tryAll y_P_tryAll) ∈ WALL := wl 15 (by decide +kernel) rfl
theorem kw_788fc9f3 : (Cond.static Lib.Math.abs.name) ∈ WALL := wl 355 (by decide +kernel) rfl
theorem kw_7cc87a9f : (Cond.static Lib.Math.max.name) ∈ WALL := wl 55 (by decide +kernel) rfl
theorem kw_1a05fe57 : (Cond.static Lib.Math.min.name) ∈ WALL := wl 52 (by decide +kernel) rfl
theorem kw_30dbde4c : (Cond.static arraycopyName) ∈ WALL := wl 401 (by decide +kernel) rfl
theorem kw_f26d23c4 : (Cond.static y_C_distance) ∈ WALL := wl 352 (by decide +kernel) rfl
theorem kw_c86f81c4 : (Cond.static y_C_needStation) ∈ WALL := wl 420 (by decide +kernel) rfl
theorem kw_44579350 : (Cond.static y_C_needUnit) ∈ WALL := wl 267 (by decide +kernel) rfl
theorem kw_adbbe0c2 : (Cond.static y_L_blocked) ∈ WALL := wl 445 (by decide +kernel) rfl
theorem kw_221ca0f4 : (Cond.static y_L_cell) ∈ WALL := wl 175 (by decide +kernel) rfl
theorem kw_d081dec6 : (Cond.static y_L_days) ∈ WALL := wl 452 (by decide +kernel) rfl
theorem kw_cb7f5a2f : (Cond.static y_L_door) ∈ WALL := wl 426 (by decide +kernel) rfl
theorem kw_3f94ff4b : (Cond.static y_L_learned) ∈ WALL := wl 460 (by decide +kernel) rfl
theorem kw_9122e80b : (Cond.static y_L_move) ∈ WALL := wl 433 (by decide +kernel) rfl
theorem kw_c0f019c3 : (Cond.static y_L_pick) ∈ WALL := wl 413 (by decide +kernel) rfl
theorem kw_078bf11b : (Cond.static y_L_plan) ∈ WALL := wl 376 (by decide +kernel) rfl
theorem kw_6440ddfd : (Cond.static y_L_put) ∈ WALL := wl 178 (by decide +kernel) rfl
theorem kw_c4cb724b : (Cond.static y_L_shelf) ∈ WALL := wl 467 (by decide +kernel) rfl
theorem kw_bb8076b3 : (Cond.static y_L_turn) ∈ WALL := wl 318 (by decide +kernel) rfl
theorem kw_9d6ea553 : (Cond.static y_L_unit) ∈ WALL := wl 475 (by decide +kernel) rfl
theorem kw_c4dc0cb0 : (Cond.static y_L_want) ∈ WALL := wl 358 (by decide +kernel) rfl
theorem kw_8e7adc0a : (Cond.static y_M_none) ∈ WALL := wl 551 (by decide +kernel) rfl
set_option maxRecDepth 20000 in
theorem k_C_init : (Cond.code y_C_init b_C_init 3 none) ∈ WALL := wl 47 rfl rfl
abbrev w_C_init : List Cond := Cond.code y_C_init b_C_init 3 none :: WALL
set_option maxRecDepth 20000 in
theorem k_C_put : (Cond.code y_C_put b_C_put 4 (some .int)) ∈ WALL := wl 187 rfl rfl
abbrev w_C_put : List Cond := Cond.code y_C_put b_C_put 4 (some .int) :: WALL
set_option maxRecDepth 20000 in
theorem k_C_turn : (Cond.code y_C_turn b_C_turn 3 (some .int)) ∈ WALL := wl 324 rfl rfl
abbrev w_C_turn : List Cond := Cond.code y_C_turn b_C_turn 3 (some .int) :: WALL
set_option maxRecDepth 20000 in
theorem k_C_want : (Cond.code y_C_want b_C_want 2 (some .int)) ∈ WALL := wl 363 rfl rfl
abbrev w_C_want : List Cond := Cond.code y_C_want b_C_want 2 (some .int) :: WALL
set_option maxRecDepth 20000 in
theorem k_C_plan : (Cond.code y_C_plan b_C_plan 3 (some .int)) ∈ WALL := wl 381 rfl rfl
abbrev w_C_plan : List Cond := Cond.code y_C_plan b_C_plan 3 (some .int) :: WALL
set_option maxRecDepth 20000 in
theorem k_C_at : (Cond.code y_C_at b_C_at 2 (some .int)) ∈ WALL := wl 137 rfl rfl
abbrev w_C_at : List Cond := Cond.code y_C_at b_C_at 2 (some .int) :: WALL
set_option maxRecDepth 20000 in
theorem k_C_exact : (Cond.code y_C_exact b_C_exact 1 (some .boolean)) ∈ WALL := wl 145 rfl rfl
abbrev w_C_exact : List Cond := Cond.code y_C_exact b_C_exact 1 (some .boolean) :: WALL
set_option maxRecDepth 20000 in
theorem k_C_clear : (Cond.code y_C_clear b_C_clear 2 (some .int)) ∈ WALL := wl 149 rfl rfl
abbrev w_C_clear : List Cond := Cond.code y_C_clear b_C_clear 2 (some .int) :: WALL
set_option maxRecDepth 20000 in
theorem k_C_pick : (Cond.code y_C_pick b_C_pick 4 (some .boolean)) ∈ WALL := wl 418 rfl rfl
abbrev w_C_pick : List Cond := Cond.code y_C_pick b_C_pick 4 (some .boolean) :: WALL
set_option maxRecDepth 20000 in
theorem k_C_door : (Cond.code y_C_door b_C_door 4 (some .boolean)) ∈ WALL := wl 431 rfl rfl
abbrev w_C_door : List Cond := Cond.code y_C_door b_C_door 4 (some .boolean) :: WALL
set_option maxRecDepth 20000 in
theorem k_C_move : (Cond.code y_C_move b_C_move 5 (some .int)) ∈ WALL := wl 438 rfl rfl
abbrev w_C_move : List Cond := Cond.code y_C_move b_C_move 5 (some .int) :: WALL
set_option maxRecDepth 20000 in
theorem k_C_blocked : (Cond.code y_C_blocked b_C_blocked 4 (some .boolean)) ∈ WALL := wl 450 rfl rfl
abbrev w_C_blocked : List Cond := Cond.code y_C_blocked b_C_blocked 4 (some .boolean) :: WALL
set_option maxRecDepth 20000 in
theorem k_C_days : (Cond.code y_C_days b_C_days 3 none) ∈ WALL := wl 457 rfl rfl
abbrev w_C_days : List Cond := Cond.code y_C_days b_C_days 3 none :: WALL
set_option maxRecDepth 20000 in
theorem k_C_learned : (Cond.code y_C_learned b_C_learned 2 (some .int)) ∈ WALL := wl 465 rfl rfl
abbrev w_C_learned : List Cond := Cond.code y_C_learned b_C_learned 2 (some .int) :: WALL
set_option maxRecDepth 20000 in
theorem k_C_rest : (Cond.code y_C_rest b_C_rest 5 (some .int)) ∈ WALL := wl 157 rfl rfl
abbrev w_C_rest : List Cond := Cond.code y_C_rest b_C_rest 5 (some .int) :: WALL
set_option maxRecDepth 20000 in
theorem k_C_shelf : (Cond.code y_C_shelf b_C_shelf 3 (some .int)) ∈ WALL := wl 472 rfl rfl
abbrev w_C_shelf : List Cond := Cond.code y_C_shelf b_C_shelf 3 (some .int) :: WALL
set_option maxRecDepth 20000 in
theorem k_C_unit : (Cond.code y_C_unit b_C_unit 2 (some .int)) ∈ WALL := wl 480 rfl rfl
abbrev w_C_unit : List Cond := Cond.code y_C_unit b_C_unit 2 (some .int) :: WALL
set_option maxRecDepth 20000 in
theorem k_C_count : (Cond.code y_C_count b_C_count 2 (some .int)) ∈ WALL := wl 165 rfl rfl
abbrev w_C_count : List Cond := Cond.code y_C_count b_C_count 2 (some .int) :: WALL
set_option maxRecDepth 20000 in
theorem k_C_isShelf : (Cond.code y_C_isShelf b_C_isShelf 2 (some .boolean)) ∈ WALL := wl 195 rfl rfl
abbrev w_C_isShelf : List Cond := Cond.code y_C_isShelf b_C_isShelf 2 (some .boolean) :: WALL
set_option maxRecDepth 20000 in
theorem k_C_needShelf : (Cond.code y_C_needShelf b_C_needShelf 2 none) ∈ WALL := wl 191 rfl rfl
abbrev w_C_needShelf : List Cond := Cond.code y_C_needShelf b_C_needShelf 2 none :: WALL
set_option maxRecDepth 20000 in
theorem k_C_needUnit : (Cond.code y_C_needUnit b_C_needUnit 1 none) ∈ WALL := wl 268 rfl rfl
abbrev w_C_needUnit : List Cond := Cond.code y_C_needUnit b_C_needUnit 1 none :: WALL
set_option maxRecDepth 20000 in
theorem k_C_needStation : (Cond.code y_C_needStation b_C_needStation 1 none) ∈ WALL := wl 421 rfl rfl
abbrev w_C_needStation : List Cond := Cond.code y_C_needStation b_C_needStation 1 none :: WALL
set_option maxRecDepth 20000 in
theorem k_C_needPlaces : (Cond.code y_C_needPlaces b_C_needPlaces 1 none) ∈ WALL := wl 328 rfl rfl
abbrev w_C_needPlaces : List Cond := Cond.code y_C_needPlaces b_C_needPlaces 1 none :: WALL
set_option maxRecDepth 20000 in
theorem k_C_needClosedDoors : (Cond.code y_C_needClosedDoors b_C_needClosedDoors 2 none) ∈ WALL := wl 349 rfl rfl
abbrev w_C_needClosedDoors : List Cond := Cond.code y_C_needClosedDoors b_C_needClosedDoors 2 none :: WALL
set_option maxRecDepth 20000 in
theorem k_C_distance : (Cond.code y_C_distance b_C_distance 4 (some .int)) ∈ WALL := wl 353 rfl rfl
abbrev w_C_distance : List Cond := Cond.code y_C_distance b_C_distance 4 (some .int) :: WALL
set_option maxRecDepth 20000 in
theorem k_C_setPlace : (Cond.code y_C_setPlace b_C_setPlace 3 none) ∈ WALL := wl 443 rfl rfl
abbrev w_C_setPlace : List Cond := Cond.code y_C_setPlace b_C_setPlace 3 none :: WALL
set_option maxRecDepth 20000 in
theorem k_C_canBeFetched : (Cond.code y_C_canBeFetched b_C_canBeFetched 3 (some .boolean)) ∈ WALL := wl 367 rfl rfl
abbrev w_C_canBeFetched : List Cond := Cond.code y_C_canBeFetched b_C_canBeFetched 3 (some .boolean) :: WALL
set_option maxRecDepth 20000 in
theorem k_C_isListed : (Cond.code y_C_isListed b_C_isListed 3 (some .boolean)) ∈ WALL := wl 372 rfl rfl
abbrev w_C_isListed : List Cond := Cond.code y_C_isListed b_C_isListed 3 (some .boolean) :: WALL
set_option maxRecDepth 20000 in
theorem k_C_holdsListed : (Cond.code y_C_holdsListed b_C_holdsListed 3 (some .boolean)) ∈ WALL := wl 387 rfl rfl
abbrev w_C_holdsListed : List Cond := Cond.code y_C_holdsListed b_C_holdsListed 3 (some .boolean) :: WALL
set_option maxRecDepth 20000 in
theorem k_C_unitsOn : (Cond.code y_C_unitsOn b_C_unitsOn 4 (some .int)) ∈ WALL := wl 173 rfl rfl
abbrev w_C_unitsOn : List Cond := Cond.code y_C_unitsOn b_C_unitsOn 4 (some .int) :: WALL
set_option maxRecDepth 20000 in
theorem k_C_unitsOnShelves : (Cond.code y_C_unitsOnShelves b_C_unitsOnShelves 1 (some .int)) ∈ WALL := wl 169 rfl rfl
abbrev w_C_unitsOnShelves : List Cond := Cond.code y_C_unitsOnShelves b_C_unitsOnShelves 1 (some .int) :: WALL
set_option maxRecDepth 20000 in
theorem k_C_countsOn : (Cond.code y_C_countsOn b_C_countsOn 4 (some .int)) ∈ WALL := wl 161 rfl rfl
abbrev w_C_countsOn : List Cond := Cond.code y_C_countsOn b_C_countsOn 4 (some .int) :: WALL
set_option maxRecDepth 20000 in
theorem k_M_init : (Cond.code y_M_init b_M_init 3 none) ∈ WALL := wl 485 rfl rfl
abbrev w_M_init : List Cond := Cond.code y_M_init b_M_init 3 none :: WALL
set_option maxRecDepth 20000 in
theorem k_M_distance : (Cond.code y_M_distance b_M_distance 4 (some .int)) ∈ WALL := wl 568 rfl rfl
abbrev w_M_distance : List Cond := Cond.code y_M_distance b_M_distance 4 (some .int) :: WALL
set_option maxRecDepth 20000 in
theorem k_M_none : (Cond.code y_M_none b_M_none 2 (some .boolean)) ∈ WALL := wl 552 rfl rfl
abbrev w_M_none : List Cond := Cond.code y_M_none b_M_none 2 (some .boolean) :: WALL
set_option maxRecDepth 20000 in
theorem k_M_lying : (Cond.code y_M_lying b_M_lying 4 (some .int)) ∈ WALL := wl 556 rfl rfl
abbrev w_M_lying : List Cond := Cond.code y_M_lying b_M_lying 4 (some .int) :: WALL
set_option maxRecDepth 20000 in
theorem k_M_sum : (Cond.code y_M_sum b_M_sum 4 (some .int)) ∈ WALL := wl 645 rfl rfl
abbrev w_M_sum : List Cond := Cond.code y_M_sum b_M_sum 4 (some .int) :: WALL
set_option maxRecDepth 20000 in
theorem k_M_anyDoor : (Cond.code y_M_anyDoor b_M_anyDoor 1 (some .boolean)) ∈ WALL := wl 564 rfl rfl
abbrev w_M_anyDoor : List Cond := Cond.code y_M_anyDoor b_M_anyDoor 1 (some .boolean) :: WALL
set_option maxRecDepth 20000 in
theorem k_M_findShelves : (Cond.code y_M_findShelves b_M_findShelves 4 (some .boolean)) ∈ WALL := wl 584 rfl rfl
abbrev w_M_findShelves : List Cond := Cond.code y_M_findShelves b_M_findShelves 4 (some .boolean) :: WALL
set_option maxRecDepth 20000 in
theorem k_M_theOrder : (Cond.code y_M_theOrder b_M_theOrder 8 none) ∈ WALL := wl 593 rfl rfl
abbrev w_M_theOrder : List Cond := Cond.code y_M_theOrder b_M_theOrder 8 none :: WALL
set_option maxRecDepth 20000 in
theorem k_M_turnsOf : (Cond.code y_M_turnsOf b_M_turnsOf 4 (some .int)) ∈ WALL := wl 597 rfl rfl
abbrev w_M_turnsOf : List Cond := Cond.code y_M_turnsOf b_M_turnsOf 4 (some .int) :: WALL
set_option maxRecDepth 20000 in
theorem k_M_byRule : (Cond.code y_M_byRule b_M_byRule 7 none) ∈ WALL := wl 588 rfl rfl
abbrev w_M_byRule : List Cond := Cond.code y_M_byRule b_M_byRule 7 none :: WALL
set_option maxRecDepth 20000 in
theorem k_M_thrown : (Cond.code y_M_thrown b_M_thrown 1 (some .int)) ∈ WALL := wl 545 rfl rfl
abbrev w_M_thrown : List Cond := Cond.code y_M_thrown b_M_thrown 1 (some .int) :: WALL
set_option maxRecDepth 20000 in
theorem k_M_put : (Cond.code y_M_put b_M_put 3 (some .int)) ∈ WALL := wl 549 rfl rfl
abbrev w_M_put : List Cond := Cond.code y_M_put b_M_put 3 (some .int) :: WALL
set_option maxRecDepth 20000 in
theorem k_M_turn : (Cond.code y_M_turn b_M_turn 3 (some .int)) ∈ WALL := wl 560 rfl rfl
abbrev w_M_turn : List Cond := Cond.code y_M_turn b_M_turn 3 (some .int) :: WALL
set_option maxRecDepth 20000 in
theorem k_M_isListed : (Cond.code y_M_isListed b_M_isListed 3 (some .boolean)) ∈ WALL := wl 576 rfl rfl
abbrev w_M_isListed : List Cond := Cond.code y_M_isListed b_M_isListed 3 (some .boolean) :: WALL
set_option maxRecDepth 20000 in
theorem k_M_want : (Cond.code y_M_want b_M_want 2 (some .int)) ∈ WALL := wl 572 rfl rfl
abbrev w_M_want : List Cond := Cond.code y_M_want b_M_want 2 (some .int) :: WALL
set_option maxRecDepth 20000 in
theorem k_M_plan : (Cond.code y_M_plan b_M_plan 6 (some .int)) ∈ WALL := wl 580 rfl rfl
abbrev w_M_plan : List Cond := Cond.code y_M_plan b_M_plan 6 (some .int) :: WALL
set_option maxRecDepth 20000 in
theorem k_M_at : (Cond.code y_M_at b_M_at 2 (some .int)) ∈ WALL := wl 601 rfl rfl
abbrev w_M_at : List Cond := Cond.code y_M_at b_M_at 2 (some .int) :: WALL
set_option maxRecDepth 20000 in
theorem k_M_exact : (Cond.code y_M_exact b_M_exact 1 (some .boolean)) ∈ WALL := wl 605 rfl rfl
abbrev w_M_exact : List Cond := Cond.code y_M_exact b_M_exact 1 (some .boolean) :: WALL
set_option maxRecDepth 20000 in
theorem k_M_clear : (Cond.code y_M_clear b_M_clear 2 (some .int)) ∈ WALL := wl 609 rfl rfl
abbrev w_M_clear : List Cond := Cond.code y_M_clear b_M_clear 2 (some .int) :: WALL
set_option maxRecDepth 20000 in
theorem k_M_shelfAt : (Cond.code y_M_shelfAt b_M_shelfAt 3 (some .int)) ∈ WALL := wl 617 rfl rfl
abbrev w_M_shelfAt : List Cond := Cond.code y_M_shelfAt b_M_shelfAt 3 (some .int) :: WALL
set_option maxRecDepth 20000 in
theorem k_M_pick : (Cond.code y_M_pick b_M_pick 3 (some .boolean)) ∈ WALL := wl 613 rfl rfl
abbrev w_M_pick : List Cond := Cond.code y_M_pick b_M_pick 3 (some .boolean) :: WALL
set_option maxRecDepth 20000 in
theorem k_M_door : (Cond.code y_M_door b_M_door 4 (some .boolean)) ∈ WALL := wl 621 rfl rfl
abbrev w_M_door : List Cond := Cond.code y_M_door b_M_door 4 (some .boolean) :: WALL
set_option maxRecDepth 20000 in
theorem k_M_move : (Cond.code y_M_move b_M_move 4 (some .int)) ∈ WALL := wl 625 rfl rfl
abbrev w_M_move : List Cond := Cond.code y_M_move b_M_move 4 (some .int) :: WALL
set_option maxRecDepth 20000 in
theorem k_M_blocked : (Cond.code y_M_blocked b_M_blocked 4 (some .boolean)) ∈ WALL := wl 629 rfl rfl
abbrev w_M_blocked : List Cond := Cond.code y_M_blocked b_M_blocked 4 (some .boolean) :: WALL
set_option maxRecDepth 20000 in
theorem k_M_days : (Cond.code y_M_days b_M_days 4 none) ∈ WALL := wl 633 rfl rfl
abbrev w_M_days : List Cond := Cond.code y_M_days b_M_days 4 none :: WALL
set_option maxRecDepth 20000 in
theorem k_M_learned : (Cond.code y_M_learned b_M_learned 2 (some .int)) ∈ WALL := wl 637 rfl rfl
abbrev w_M_learned : List Cond := Cond.code y_M_learned b_M_learned 2 (some .int) :: WALL
set_option maxRecDepth 20000 in
theorem k_M_rest : (Cond.code y_M_rest b_M_rest 3 (some .int)) ∈ WALL := wl 641 rfl rfl
abbrev w_M_rest : List Cond := Cond.code y_M_rest b_M_rest 3 (some .int) :: WALL
set_option maxRecDepth 20000 in
theorem k_M_shelf : (Cond.code y_M_shelf b_M_shelf 3 (some .int)) ∈ WALL := wl 649 rfl rfl
abbrev w_M_shelf : List Cond := Cond.code y_M_shelf b_M_shelf 3 (some .int) :: WALL
set_option maxRecDepth 20000 in
theorem k_M_unit : (Cond.code y_M_unit b_M_unit 2 (some .int)) ∈ WALL := wl 653 rfl rfl
abbrev w_M_unit : List Cond := Cond.code y_M_unit b_M_unit 2 (some .int) :: WALL
set_option maxRecDepth 20000 in
theorem k_M_count : (Cond.code y_M_count b_M_count 4 (some .int)) ∈ WALL := wl 657 rfl rfl
abbrev w_M_count : List Cond := Cond.code y_M_count b_M_count 4 (some .int) :: WALL
set_option maxRecDepth 20000 in
theorem k_P_init : (Cond.code y_P_init b_P_init 2 none) ∈ WALL := wl 61 rfl rfl
abbrev w_P_init : List Cond := Cond.code y_P_init b_P_init 2 none :: WALL
set_option maxRecDepth 20000 in
theorem k_P_forget : (Cond.code y_P_forget b_P_forget 1 none) ∈ WALL := wl 153 rfl rfl
abbrev w_P_forget : List Cond := Cond.code y_P_forget b_P_forget 1 none :: WALL
set_option maxRecDepth 20000 in
theorem k_P_addStop : (Cond.code y_P_addStop b_P_addStop 3 none) ∈ WALL := wl 391 rfl rfl
abbrev w_P_addStop : List Cond := Cond.code y_P_addStop b_P_addStop 3 none :: WALL
set_option maxRecDepth 20000 in
theorem k_P_order : (Cond.code y_P_order b_P_order 3 (some .int)) ∈ WALL := wl 395 rfl rfl
abbrev w_P_order : List Cond := Cond.code y_P_order b_P_order 3 (some .int) :: WALL
set_option maxRecDepth 20000 in
theorem k_P_tryAll : (Cond.code y_P_tryAll b_P_tryAll 5 none) ∈ WALL := wl 399 rfl rfl
abbrev w_P_tryAll : List Cond := Cond.code y_P_tryAll b_P_tryAll 5 none :: WALL
set_option maxRecDepth 20000 in
theorem k_P_followRule : (Cond.code y_P_followRule b_P_followRule 5 none) ∈ WALL := wl 407 rfl rfl
abbrev w_P_followRule : List Cond := Cond.code y_P_followRule b_P_followRule 5 none :: WALL
set_option maxRecDepth 20000 in
theorem k_P_nearest : (Cond.code y_P_nearest b_P_nearest 6 (some .int)) ∈ WALL := wl 411 rfl rfl
abbrev w_P_nearest : List Cond := Cond.code y_P_nearest b_P_nearest 6 (some .int) :: WALL
set_option maxRecDepth 20000 in
theorem k_P_shelfOfStop : (Cond.code y_P_shelfOfStop b_P_shelfOfStop 2 (some .int)) ∈ WALL := wl 141 rfl rfl
abbrev w_P_shelfOfStop : List Cond := Cond.code y_P_shelfOfStop b_P_shelfOfStop 2 (some .int) :: WALL
set_option maxRecDepth 20000 in
theorem k_L_put : (Cond.codeWith y_L_put b_L_put 5 (some .int) [(0, 10, 13, 13), (0, 10, 17, 15), (0, 10, 21, 17), (0, 10, 25, 19)]) ∈ WALL := wl 179 rfl rfl
abbrev w_L_put : List Cond := Cond.codeWith y_L_put b_L_put 5 (some .int) [(0, 10, 13, 13), (0, 10, 17, 15), (0, 10, 21, 17), (0, 10, 25, 19)] :: WALL
set_option maxRecDepth 20000 in
theorem k_L_turn : (Cond.codeWith y_L_turn b_L_turn 4 (some .int) [(0, 9, 12, 25), (0, 9, 15, 15), (0, 9, 18, 17)]) ∈ WALL := wl 319 rfl rfl
abbrev w_L_turn : List Cond := Cond.codeWith y_L_turn b_L_turn 4 (some .int) [(0, 9, 12, 25), (0, 9, 15, 15), (0, 9, 18, 17)] :: WALL
set_option maxRecDepth 20000 in
theorem k_L_want : (Cond.codeWith y_L_want b_L_want 4 (some .int) [(0, 9, 12, 15), (0, 9, 15, 17), (0, 9, 18, 19)]) ∈ WALL := wl 359 rfl rfl
abbrev w_L_want : List Cond := Cond.codeWith y_L_want b_L_want 4 (some .int) [(0, 9, 12, 15), (0, 9, 15, 17), (0, 9, 18, 19)] :: WALL
set_option maxRecDepth 20000 in
theorem k_L_plan : (Cond.codeWith y_L_plan b_L_plan 4 (some .int) [(0, 9, 12, 15), (0, 9, 15, 17)]) ∈ WALL := wl 377 rfl rfl
abbrev w_L_plan : List Cond := Cond.codeWith y_L_plan b_L_plan 4 (some .int) [(0, 9, 12, 15), (0, 9, 15, 17)] :: WALL
set_option maxRecDepth 20000 in
theorem k_L_pick : (Cond.codeWith y_L_pick b_L_pick 5 (some .int) [(0, 17, 20, 25), (0, 17, 24, 15), (0, 17, 28, 17)]) ∈ WALL := wl 414 rfl rfl
abbrev w_L_pick : List Cond := Cond.codeWith y_L_pick b_L_pick 5 (some .int) [(0, 17, 20, 25), (0, 17, 24, 15), (0, 17, 28, 17)] :: WALL
set_option maxRecDepth 20000 in
theorem k_L_door : (Cond.codeWith y_L_door b_L_door 5 (some .int) [(0, 17, 20, 15)]) ∈ WALL := wl 427 rfl rfl
abbrev w_L_door : List Cond := Cond.codeWith y_L_door b_L_door 5 (some .int) [(0, 17, 20, 15)] :: WALL
set_option maxRecDepth 20000 in
theorem k_L_move : (Cond.codeWith y_L_move b_L_move 5 (some .int) [(0, 10, 13, 13), (0, 10, 17, 17)]) ∈ WALL := wl 434 rfl rfl
abbrev w_L_move : List Cond := Cond.codeWith y_L_move b_L_move 5 (some .int) [(0, 10, 13, 13), (0, 10, 17, 17)] :: WALL
set_option maxRecDepth 20000 in
theorem k_L_blocked : (Cond.codeWith y_L_blocked b_L_blocked 5 (some .int) [(0, 17, 20, 13)]) ∈ WALL := wl 446 rfl rfl
abbrev w_L_blocked : List Cond := Cond.codeWith y_L_blocked b_L_blocked 5 (some .int) [(0, 17, 20, 13)] :: WALL
set_option maxRecDepth 20000 in
theorem k_L_days : (Cond.codeWith y_L_days b_L_days 3 (some .int) [(0, 5, 8, 15)]) ∈ WALL := wl 453 rfl rfl
abbrev w_L_days : List Cond := Cond.codeWith y_L_days b_L_days 3 (some .int) [(0, 5, 8, 15)] :: WALL
set_option maxRecDepth 20000 in
theorem k_L_learned : (Cond.codeWith y_L_learned b_L_learned 4 (some .int) [(0, 9, 12, 15)]) ∈ WALL := wl 461 rfl rfl
abbrev w_L_learned : List Cond := Cond.codeWith y_L_learned b_L_learned 4 (some .int) [(0, 9, 12, 15)] :: WALL
set_option maxRecDepth 20000 in
theorem k_L_shelf : (Cond.codeWith y_L_shelf b_L_shelf 5 (some .int) [(0, 10, 13, 13), (0, 10, 17, 15)]) ∈ WALL := wl 468 rfl rfl
abbrev w_L_shelf : List Cond := Cond.codeWith y_L_shelf b_L_shelf 5 (some .int) [(0, 10, 13, 13), (0, 10, 17, 15)] :: WALL
set_option maxRecDepth 20000 in
theorem k_L_unit : (Cond.codeWith y_L_unit b_L_unit 4 (some .int) [(0, 9, 12, 15)]) ∈ WALL := wl 476 rfl rfl
abbrev w_L_unit : List Cond := Cond.codeWith y_L_unit b_L_unit 4 (some .int) [(0, 9, 12, 15)] :: WALL
set_option maxRecDepth 20000 in
theorem k_L_cell : (Cond.code y_L_cell b_L_cell 2 (some .int)) ∈ WALL := wl 176 rfl rfl
abbrev w_L_cell : List Cond := Cond.code y_L_cell b_L_cell 2 (some .int) :: WALL
theorem iW_C : ∀ w ∈ u_ws R_C F_C 13, w ∈ WALL := List.forall_mem_cons.mpr ⟨wl 107 (by decide +kernel) rfl, List.forall_mem_cons.mpr ⟨wl 109 (by decide +kernel) rfl, List.forall_mem_cons.mpr ⟨wl 111 (by decide +kernel) rfl, List.forall_mem_cons.mpr ⟨wl 113 (by decide +kernel) rfl, List.forall_mem_cons.mpr ⟨wl 115 (by decide +kernel) rfl, List.forall_mem_cons.mpr ⟨wl 117 (by decide +kernel) rfl, List.forall_mem_cons.mpr ⟨wl 119 (by decide +kernel) rfl, List.forall_mem_cons.mpr ⟨wl 121 (by decide +kernel) rfl, List.forall_mem_cons.mpr ⟨wl 123 (by decide +kernel) rfl, List.forall_mem_cons.mpr ⟨wl 125 (by decide +kernel) rfl, List.forall_mem_cons.mpr ⟨wl 127 (by decide +kernel) rfl, List.forall_mem_cons.mpr ⟨wl 129 (by decide +kernel) rfl, List.forall_mem_cons.mpr ⟨wl 131 (by decide +kernel) rfl, fun _ h => absurd h List.not_mem_nil⟩⟩⟩⟩⟩⟩⟩⟩⟩⟩⟩⟩⟩
theorem iW_P : ∀ w ∈ u_ws R_P F_P 9, w ∈ WALL := List.forall_mem_cons.mpr ⟨wl 73 (by decide +kernel) rfl, List.forall_mem_cons.mpr ⟨wl 75 (by decide +kernel) rfl, List.forall_mem_cons.mpr ⟨wl 77 (by decide +kernel) rfl, List.forall_mem_cons.mpr ⟨wl 79 (by decide +kernel) rfl, List.forall_mem_cons.mpr ⟨wl 81 (by decide +kernel) rfl, List.forall_mem_cons.mpr ⟨wl 83 (by decide +kernel) rfl, List.forall_mem_cons.mpr ⟨wl 85 (by decide +kernel) rfl, List.forall_mem_cons.mpr ⟨wl 87 (by decide +kernel) rfl, List.forall_mem_cons.mpr ⟨wl 89 (by decide +kernel) rfl, fun _ h => absurd h List.not_mem_nil⟩⟩⟩⟩⟩⟩⟩⟩⟩
theorem iW_M : ∀ w ∈ u_ws R_M F_M 18, w ∈ WALL := List.forall_mem_cons.mpr ⟨wl 505 (by decide +kernel) rfl, List.forall_mem_cons.mpr ⟨wl 507 (by decide +kernel) rfl, List.forall_mem_cons.mpr ⟨wl 509 (by decide +kernel) rfl, List.forall_mem_cons.mpr ⟨wl 511 (by decide +kernel) rfl, List.forall_mem_cons.mpr ⟨wl 513 (by decide +kernel) rfl, List.forall_mem_cons.mpr ⟨wl 515 (by decide +kernel) rfl, List.forall_mem_cons.mpr ⟨wl 517 (by decide +kernel) rfl, List.forall_mem_cons.mpr ⟨wl 519 (by decide +kernel) rfl, List.forall_mem_cons.mpr ⟨wl 521 (by decide +kernel) rfl, List.forall_mem_cons.mpr ⟨wl 523 (by decide +kernel) rfl, List.forall_mem_cons.mpr ⟨wl 525 (by decide +kernel) rfl, List.forall_mem_cons.mpr ⟨wl 527 (by decide +kernel) rfl, List.forall_mem_cons.mpr ⟨wl 529 (by decide +kernel) rfl, List.forall_mem_cons.mpr ⟨wl 531 (by decide +kernel) rfl, List.forall_mem_cons.mpr ⟨wl 533 (by decide +kernel) rfl, List.forall_mem_cons.mpr ⟨wl 535 (by decide +kernel) rfl, List.forall_mem_cons.mpr ⟨wl 537 (by decide +kernel) rfl, List.forall_mem_cons.mpr ⟨wl 539 (by decide +kernel) rfl, fun _ h => absurd h List.not_mem_nil⟩⟩⟩⟩⟩⟩⟩⟩⟩⟩⟩⟩⟩⟩⟩⟩⟩⟩
def adP (h0 : Nat) (l : List Nat) (k : Nat) : Nat := if k = 8 then h0 else l.getD (k - 9) 0
def adC (h0 : Nat) (l : List Nat) (k : Nat) : Nat := if k = 0 then h0 else l.getD (k - 1) 0
def adM (h0 : Nat) (l : List Nat) (k : Nat) : Nat := if k = 0 then h0 else l.getD (k - 1) 0
abbrev cW (a : Nat → Nat) (cI cZ : ClassId) (places : Int32) (listed : Int32) (front : Int32) (turns : Int32) (fetched : Int32) (placeOf : Nat → Int32) (shelfAt : Nat → Int32) (isBlocked : Nat → Int32) (shelfOf : Nat → Int32) (counts : Nat → Int32) (isOpen : Nat → Int32) (list : Nat → Int32) (ring : Int32) (stops : Int32) (fewest : Int32) (isExact : Int32) (shelves : Nat → Int32) (stopPlaces : Nat → Int32) (taken : Nat → Int32) (trial : Nat → Int32) (best : Nat → Int32) : va_W := [((a 0), .inr (0, [.int places, .ref (a 1), .ref (a 2), .ref (a 3), .ref (a 4), .ref (a 5), .ref (a 6), .ref (a 7), .ref (a 8), .int listed, .int front, .int turns, .int fetched])), ((a 1), .inl (cI, 24, .inl placeOf)), ((a 2), .inl (cI, 24, .inl shelfAt)), ((a 3), .inl (cZ, 24, .inl isBlocked)), ((a 4), .inl (cI, 20, .inl shelfOf)), ((a 5), .inl (cI, 20, .inl counts)), ((a 6), .inl (cZ, 2, .inl isOpen)), ((a 7), .inl (cI, 8, .inl list)), ((a 8), .inr (1, [.int ring, .ref (a 9), .ref (a 10), .ref (a 11), .ref (a 12), .ref (a 13), .int stops, .int fewest, .int isExact])), ((a 9), .inl (cI, 8, .inl shelves)), ((a 10), .inl (cI, 8, .inl stopPlaces)), ((a 11), .inl (cZ, 8, .inl taken)), ((a 12), .inl (cI, 8, .inl trial)), ((a 13), .inl (cI, 8, .inl best))]
abbrev pW (a : Nat → Nat) (cI cZ : ClassId) (ring : Int32) (stops : Int32) (fewest : Int32) (isExact : Int32) (shelves : Nat → Int32) (stopPlaces : Nat → Int32) (taken : Nat → Int32) (trial : Nat → Int32) (best : Nat → Int32) : va_W := [((a 8), .inr (1, [.int ring, .ref (a 9), .ref (a 10), .ref (a 11), .ref (a 12), .ref (a 13), .int stops, .int fewest, .int isExact])), ((a 9), .inl (cI, 8, .inl shelves)), ((a 10), .inl (cI, 8, .inl stopPlaces)), ((a 11), .inl (cZ, 8, .inl taken)), ((a 12), .inl (cI, 8, .inl trial)), ((a 13), .inl (cI, 8, .inl best))]
abbrev mW (d : Nat → Nat) (cI cZ : ClassId) (m_thrownCode : Int32) (m_places : Int32) (m_front : Int32) (m_turns : Int32) (m_fetched : Int32) (m_listed : Int32) (m_planned : Int32) (m_wasExact : Int32) (m_shelves : Int32) (m_placeOf : Nat → Int32) (m_blockedShelf : Nat → Int32) (m_on : Nat → Int32) (m_counts : Nat → Int32) (m_doors : Nat → Int32) (m_list : Nat → Int32) (m_plan : Nat → Int32) (m_shelf : Nat → Int32) (m_trial : Nat → Int32) : va_W := [((d 0), .inr (2, [.int m_thrownCode, .int m_places, .int m_front, .ref (d 1), .ref (d 2), .ref (d 3), .ref (d 4), .ref (d 5), .int m_turns, .int m_fetched, .int m_listed, .ref (d 6), .int m_planned, .ref (d 7), .int m_wasExact, .int m_shelves, .ref (d 8), .ref (d 9)])), ((d 1), .inl (cI, 24, .inl m_placeOf)), ((d 2), .inl (cZ, 24, .inl m_blockedShelf)), ((d 3), .inl (cI, 20, .inl m_on)), ((d 4), .inl (cI, 20, .inl m_counts)), ((d 5), .inl (cZ, 2, .inl m_doors)), ((d 6), .inl (cI, 8, .inl m_list)), ((d 7), .inl (cI, 8, .inl m_plan)), ((d 8), .inl (cI, 8, .inl m_shelf)), ((d 9), .inl (cI, 8, .inl m_trial))]
abbrev lW (a : Nat → Nat) (o : Nat) (cI cZ cJ : ClassId) (places : Int32) (listed : Int32) (front : Int32) (turns : Int32) (fetched : Int32) (placeOf : Nat → Int32) (shelfAt : Nat → Int32) (isBlocked : Nat → Int32) (shelfOf : Nat → Int32) (counts : Nat → Int32) (isOpen : Nat → Int32) (list : Nat → Int32) (ring : Int32) (stops : Int32) (fewest : Int32) (isExact : Int32) (shelves : Nat → Int32) (stopPlaces : Nat → Int32) (taken : Nat → Int32) (trial : Nat → Int32) (best : Nat → Int32) (out : Nat → Int64) : va_W := [((a 0), .inr (0, [.int places, .ref (a 1), .ref (a 2), .ref (a 3), .ref (a 4), .ref (a 5), .ref (a 6), .ref (a 7), .ref (a 8), .int listed, .int front, .int turns, .int fetched])), ((a 1), .inl (cI, 24, .inl placeOf)), ((a 2), .inl (cI, 24, .inl shelfAt)), ((a 3), .inl (cZ, 24, .inl isBlocked)), ((a 4), .inl (cI, 20, .inl shelfOf)), ((a 5), .inl (cI, 20, .inl counts)), ((a 6), .inl (cZ, 2, .inl isOpen)), ((a 7), .inl (cI, 8, .inl list)), ((a 8), .inr (1, [.int ring, .ref (a 9), .ref (a 10), .ref (a 11), .ref (a 12), .ref (a 13), .int stops, .int fewest, .int isExact])), ((a 9), .inl (cI, 8, .inl shelves)), ((a 10), .inl (cI, 8, .inl stopPlaces)), ((a 11), .inl (cZ, 8, .inl taken)), ((a 12), .inl (cI, 8, .inl trial)), ((a 13), .inl (cI, 8, .inl best)), (o, .inl (cJ, 1, .inr (.inl out)))]
abbrev gW (a d : Nat → Nat) (o : Nat) (cI cZ cJ : ClassId) (places : Int32) (listed : Int32) (front : Int32) (turns : Int32) (fetched : Int32) (placeOf : Nat → Int32) (shelfAt : Nat → Int32) (isBlocked : Nat → Int32) (shelfOf : Nat → Int32) (counts : Nat → Int32) (isOpen : Nat → Int32) (list : Nat → Int32) (ring : Int32) (stops : Int32) (fewest : Int32) (isExact : Int32) (shelves : Nat → Int32) (stopPlaces : Nat → Int32) (taken : Nat → Int32) (trial : Nat → Int32) (best : Nat → Int32) (m_thrownCode : Int32) (m_places : Int32) (m_front : Int32) (m_turns : Int32) (m_fetched : Int32) (m_listed : Int32) (m_planned : Int32) (m_wasExact : Int32) (m_shelves : Int32) (m_placeOf : Nat → Int32) (m_blockedShelf : Nat → Int32) (m_on : Nat → Int32) (m_counts : Nat → Int32) (m_doors : Nat → Int32) (m_list : Nat → Int32) (m_plan : Nat → Int32) (m_shelf : Nat → Int32) (m_trial : Nat → Int32) (out : Nat → Int64) : va_W := [((a 0), .inr (0, [.int places, .ref (a 1), .ref (a 2), .ref (a 3), .ref (a 4), .ref (a 5), .ref (a 6), .ref (a 7), .ref (a 8), .int listed, .int front, .int turns, .int fetched])), ((a 1), .inl (cI, 24, .inl placeOf)), ((a 2), .inl (cI, 24, .inl shelfAt)), ((a 3), .inl (cZ, 24, .inl isBlocked)), ((a 4), .inl (cI, 20, .inl shelfOf)), ((a 5), .inl (cI, 20, .inl counts)), ((a 6), .inl (cZ, 2, .inl isOpen)), ((a 7), .inl (cI, 8, .inl list)), ((a 8), .inr (1, [.int ring, .ref (a 9), .ref (a 10), .ref (a 11), .ref (a 12), .ref (a 13), .int stops, .int fewest, .int isExact])), ((a 9), .inl (cI, 8, .inl shelves)), ((a 10), .inl (cI, 8, .inl stopPlaces)), ((a 11), .inl (cZ, 8, .inl taken)), ((a 12), .inl (cI, 8, .inl trial)), ((a 13), .inl (cI, 8, .inl best)), ((d 0), .inr (2, [.int m_thrownCode, .int m_places, .int m_front, .ref (d 1), .ref (d 2), .ref (d 3), .ref (d 4), .ref (d 5), .int m_turns, .int m_fetched, .int m_listed, .ref (d 6), .int m_planned, .ref (d 7), .int m_wasExact, .int m_shelves, .ref (d 8), .ref (d 9)])), ((d 1), .inl (cI, 24, .inl m_placeOf)), ((d 2), .inl (cZ, 24, .inl m_blockedShelf)), ((d 3), .inl (cI, 20, .inl m_on)), ((d 4), .inl (cI, 20, .inl m_counts)), ((d 5), .inl (cZ, 2, .inl m_doors)), ((d 6), .inl (cI, 8, .inl m_list)), ((d 7), .inl (cI, 8, .inl m_plan)), ((d 8), .inl (cI, 8, .inl m_shelf)), ((d 9), .inl (cI, 8, .inl m_trial)), (o, .inl (cJ, 1, .inr (.inl out)))]
def xP (b L : Nat) (xs : Nat → Int32) (U : State) : Prop := va_X b L xs U U.heap ∧ b < U.heap.size
theorem xP.blind {b L : Nat} {xs : Nat → Int32} {av : List Value} : FrameBlind (va_Pc av (xP b L xs)) := fun a U g mk q => ⟨q.1, va_X.moved (u := U) (U := U.calling g mk a) (Vm.Alike.refl U.vm) q.2.1, q.2.2⟩
theorem xP.of {b L : Nat} {xs : Nat → Int32} {s : State} {H : Heap} {A : Nat → Prop} {locs : List Loc} {av : List Value} (hX : va_X b L xs s s.heap) (hbl : b < s.heap.size) (hbA : ¬ A b) (hS : va_S A s.heap H locs) : ∀ U : State, U.heap = H → s.WarmedH U.vm → va_Pc av (xP b L xs) av.toArray U := fun U hU hW =>
  ⟨rfl, by rw [hU]; exact va_X.moved hW.alike (hX.kept (hS.2.1 b hbl hbA)), by rw [hU]; exact Nat.lt_of_lt_of_le hbl hS.1⟩

