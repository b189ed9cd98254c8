/-! PURE PART 4: at, exact, clear, count, shelf, rest, days -/
def eqc (r b : Int32) (R : Prop) : Prop := ((r = b → R) ∧ (¬ r = b → False))
theorem eqc_i {r b : Int32} {R : Prop} (e : r = b) (h : R) : eqc r b R := ⟨fun _ => h, fun c => c e⟩
theorem op_at {x1 : Int32} {st : Nat} {sh be plan : Nat → Int32} {V1 : Prop} {REC : Int32 → Prop} (v1 : V1) (hst : st ≤ 8) (hb : ∀ i, i < st → ∃ b, b < 8 ∧ be i = nI b ∧ sh b = plan i) (h0 : ∀ th, REC th) :
    V1 ∧ p_C_at x1 (nI st) sh be (fun r => V1 ∧ p_M_at x1 (nI st) plan (fun b th => eqc r b (REC th))) := by
  refine ⟨v1, ?_⟩
  show p_P_shelfOfStop x1 (nI st) sh be _
  rcases rng x1 (show st < 2 ^ 31 by omega) with hx | ⟨j, hj, rfl⟩
  · have M : p_M_at x1 (nI st) plan (fun b th => eqc (-1) b (REC th)) := e_none_o hx ⟨fun c => absurd c one_ne, fun _ => eqc_i rfl (h0 _)⟩
    rcases hx with hx | hx
    · exact ⟨fun _ => ⟨v1, M⟩, fun c => absurd hx c⟩
    · exact ⟨fun _ => ⟨v1, M⟩, fun _ => ⟨fun c => absurd c (nlt_of_le hx), fun _ => ⟨v1, M⟩⟩⟩
  · have cj : (nI j).toNatClampNeg = j := nI_clamp (by omega)
    obtain ⟨b, hb8, eb, es⟩ := hb j hj
    have vj := vp_in_nI (n := j) (N := 8) (by omega) (by decide)
    refine ⟨fun c => absurd c (nI_pos (by omega)), fun _ => ⟨fun _ => ⟨vj, ?_⟩, fun c => absurd (nI_lt hj (by omega)) c⟩⟩
    rw [cj, eb, nI_clamp (show b < 2 ^ 31 by omega)]
    exact ⟨vp_in_nI hb8 (by decide), v1, e_none_i hj (by omega) ⟨fun _ => ⟨vj, by rw [cj]; exact eqc_i es (h0 _)⟩, fun c => absurd rfl c⟩⟩
theorem op_exact {e : Int32} {REC : Int32 → Prop} (he : isB e) (h0 : ∀ th, REC th) : p_C_exact e (fun r => p_M_exact e (fun b th => eqc r b (REC th))) := ⟨isB_nar he, isB_nar he, eqc_i rfl (h0 _)⟩
theorem op_clear {l : Int32} {REC : Int32 → Int32 → Int32 → Int32 → Int32 → Int32 → Int32 → Prop} (h0 : REC 0 0 0 0 0 0 0) : p_C_clear l (fun r l' s' e' => p_M_clear l (fun b th l'' p'' w'' => eqc r b (REC l' s' e' th l'' p'' w''))) := eqc_i rfl h0
-- count
def cntP (f : Nat → Int32) : Nat → Nat
  | 0 => 0
  | i + 1 => cntP f i + (if f i < 0 then 0 else 1)
theorem cntP20 {f : Nat → Int32} : ∀ {i : Nat}, (∀ u, u < i → f u = -1 ∨ ¬ f u < 0) → cntN f (-1) i + cntP f i = i
  | 0, _ => rfl
  | i + 1, h => by
    have ih := cntP20 (f := f) (i := i) (fun u hu => h u (by omega))
    simp only [cntN, cntP]
    rcases h i (by omega) with e | e
    · rw [if_pos e, if_pos (show f i < 0 by rw [e]; exact m1_neg)]
      omega
    · rw [if_neg (fun c => e (by rw [c]; exact m1_neg)), if_neg e]
      omega
theorem e_countM {x1 pc fr tu fe ll : Int32} {f : Nat → Int32} {post : Int32 → Int32 → Prop} (h : ((¬ x1 = 0 → ((¬ x1 = (1 : Int32) → ((¬ x1 = (2 : Int32) → ((¬ x1 = (3 : Int32) → ((¬ x1 = (4 : Int32) → ((¬ x1 = (5 : Int32) → post (-1 : Int32) (0 : Int32)) ∧ (x1 = (5 : Int32) → post fe (0 : Int32)))) ∧ (x1 = (4 : Int32) → post ll (0 : Int32)))) ∧ (x1 = (3 : Int32) → post (nI (cntP f 20)) (0 : Int32)))) ∧ (x1 = (2 : Int32) → post tu (0 : Int32)))) ∧ (x1 = (1 : Int32) → ((¬ pc = 0 → post fr (0 : Int32)) ∧ (pc = 0 → post (-1 : Int32) (0 : Int32)))))) ∧ (x1 = 0 → post pc (0 : Int32)))) : p_M_count x1 pc fr tu fe ll f post := by
  refine pk_loop (fun n i (s : Int32) => p_M_count_L9 f (fun k_9 k_10 => ((¬ x1 = 0 → ((¬ x1 = (1 : Int32) → ((¬ x1 = (2 : Int32) → ((¬ x1 = (3 : Int32) → ((¬ x1 = (4 : Int32) → ((¬ x1 = (5 : Int32) → post (-1 : Int32) (0 : Int32)) ∧ (x1 = (5 : Int32) → post fe (0 : Int32)))) ∧ (x1 = (4 : Int32) → post ll (0 : Int32)))) ∧ (x1 = (3 : Int32) → post k_9 (0 : Int32)))) ∧ (x1 = (2 : Int32) → post tu (0 : Int32)))) ∧ (x1 = (1 : Int32) → ((¬ pc = 0 → post fr (0 : Int32)) ∧ (pc = 0 → post (-1 : Int32) (0 : Int32)))))) ∧ (x1 = 0 → post pc (0 : Int32)))) n s (nI i)) (fun i s => s = nI (cntP f i)) 20 0 0 (by decide) rfl ?_ ?_
  · intro n s hI
    subst hI
    exact ⟨fun _ => h, fun c => absurd (nI_le (Nat.le_refl 20) (by decide)) c⟩
  · intro n i s hi hI hr
    subst hI
    refine ⟨fun c => absurd c (nI_ge hi (by decide)), fun _ => ⟨vp_in_nI hi (by decide), fun c => ?_, fun c => ?_⟩⟩
    · rw [nI_clamp (by omega)] at c
      rw [nI_1]
      exact hr _ (by simp only [cntP]; rw [if_pos c, ad0, Nat.add_zero])
    · rw [nI_clamp (by omega)] at c
      rw [nI_1, nI_1]
      exact hr _ (by simp only [cntP]; rw [if_neg c])
theorem op_count {x1 tu fe : Int32} {n fr ll : Nat} {f : Nat → Int32} {V1 : Prop} {REC : Int32 → Prop} (v1 : V1) (hf : ∀ u, u < 20 → f u = -1 ∨ ¬ f u < 0) (h0 : ∀ th, REC th) :
    V1 ∧ p_C_count x1 (nI n) (nI ll) (nI fr) tu fe f (fun r => V1 ∧ p_M_count x1 (nI n) (nI fr) tu fe (nI ll) f (fun b th => eqc r b (REC th))) := by
  refine ⟨v1, ?_⟩
  have hc : (20 : Int32) - nI (cntN f (-1) 20) = nI (cntP f 20) := by
    have e := cntP20 hf
    have := cntN_le f (-1) 20
    show nI 20 - _ = _
    rw [pk_sub this]
    congr 1
    omega
  refine ⟨fun e => ⟨v1, e_countM ⟨fun c => absurd e c, fun _ => eqc_i rfl (h0 _)⟩⟩, fun n0 => ⟨fun e => ?_, fun n1 => ⟨fun e => ?_, fun n2 => ⟨fun e => ?_, fun n3 => ⟨fun e => ?_, fun n4 => ⟨fun e => ?_, fun n5 => ?_⟩⟩⟩⟩⟩⟩
  · exact ⟨fun p => ⟨v1, e_countM ⟨fun _ => ⟨fun c => absurd e c, fun _ => ⟨fun _ => eqc_i rfl (h0 _), fun c => absurd c p⟩⟩, fun c => absurd c n0⟩⟩, fun p => ⟨v1, e_countM ⟨fun _ => ⟨fun c => absurd e c, fun _ => ⟨fun c => absurd p c, fun _ => eqc_i rfl (h0 _)⟩⟩, fun c => absurd c n0⟩⟩⟩
  · exact ⟨v1, e_countM ⟨fun _ => ⟨fun _ => ⟨fun c => absurd e c, fun _ => eqc_i rfl (h0 _)⟩, fun c => absurd c n1⟩, fun c => absurd c n0⟩⟩
  · exact e_unitsOn ⟨v1, e_countM ⟨fun _ => ⟨fun _ => ⟨fun _ => ⟨fun c => absurd e c, fun _ => eqc_i hc (h0 _)⟩, fun c => absurd c n2⟩, fun c => absurd c n1⟩, fun c => absurd c n0⟩⟩
  · exact ⟨v1, e_countM ⟨fun _ => ⟨fun _ => ⟨fun _ => ⟨fun _ => ⟨fun c => absurd e c, fun _ => eqc_i rfl (h0 _)⟩, fun c => absurd c n3⟩, fun c => absurd c n2⟩, fun c => absurd c n1⟩, fun c => absurd c n0⟩⟩
  · exact ⟨v1, e_countM ⟨fun _ => ⟨fun _ => ⟨fun _ => ⟨fun _ => ⟨fun _ => ⟨fun c => absurd e c, fun _ => eqc_i rfl (h0 _)⟩, fun c => absurd c n4⟩, fun c => absurd c n3⟩, fun c => absurd c n2⟩, fun c => absurd c n1⟩, fun c => absurd c n0⟩⟩
  · exact ⟨v1, e_countM ⟨fun _ => ⟨fun _ => ⟨fun _ => ⟨fun _ => ⟨fun _ => ⟨fun _ => eqc_i rfl (h0 _), fun c => absurd c n5⟩, fun c => absurd c n4⟩, fun c => absurd c n3⟩, fun c => absurd c n2⟩, fun c => absurd c n1⟩, fun c => absurd c n0⟩⟩
-- shelf
theorem op_shelf {x1 x2 : Int32} {n fr : Nat} {pl bl f g : Nat → Int32} {out : Nat → Int64} {V1 V2 : Prop} {REC : (Nat → Int64) → Int32 → Prop} (v1 : V1) (v2 : V2) (hn : n ≤ 24) (hfr : n = 0 ∨ fr < n) (hp : ∀ j, j < n → ∃ p, p < n ∧ pl j = nI p) (h0 : ∀ o th, REC o th) :
    V1 ∧ (V2 ∧ p_L_shelf x1 x2 (nI n) (nI fr) pl bl f g out (fun r o => V1 ∧ (V2 ∧ p_M_shelf x1 x2 (nI n) (nI fr) pl bl f g (fun b th => chkI r o b th (REC o th))))) := by
  refine ⟨v1, v2, ?_⟩
  show p_C_shelf x1 x2 (nI n) (nI fr) pl bl f g _ _
  rcases rng x1 (show n < 2 ^ 31 by omega) with hx | ⟨j, hj, rfl⟩
  · exact e_needShelf_o hx (Or.inl ⟨rfl, v1, v2, e_none_o hx ⟨fun c => absurd c one_ne, fun _ => chkI_thr (by decide) (h0 _ _)⟩⟩)
  · refine e_needShelf_i hj (by omega) ?_
    have cj : (nI j).toNatClampNeg = j := nI_clamp (by omega)
    have vj := vp_in_nI (n := j) (N := 24) (by omega) (by decide)
    obtain ⟨pj, hpj, ej⟩ := hp j hj
    rcases rng x2 (show 5 < 2 ^ 31 by decide) with hy | ⟨t, ht, rfl⟩
    · have ne : ∀ k : Nat, k < 5 → ¬ x2 = nI k := by
        intro k hk e
        subst e
        rcases hy with h | h
        · exact nI_pos (by omega) h
        · exact nI_ge (a := k) (b := 5) hk (by decide) h
      exact ⟨fun e => absurd e (ne 0 (by decide)), fun _ => ⟨fun e => absurd e (ne 1 (by decide)), fun _ => ⟨fun e => absurd e (ne 2 (by decide)), fun _ => ⟨fun e => absurd e (ne 3 (by decide)), fun _ => ⟨fun e => absurd e (ne 4 (by decide)), fun _ => Or.inr ⟨rfl, v1, v2, e_none_i hj (by omega) ⟨fun _ => e_none_o (n := 5) hy ⟨fun c => absurd c one_ne, fun _ => chkI_thr (by decide) (h0 _ _)⟩, fun c => absurd rfl c⟩⟩⟩⟩⟩⟩⟩
    · have M : ∀ {post : Int32 → Int32 → Prop}, ((¬ nI t = 0 → ((¬ nI t = (1 : Int32) → ((¬ nI t = (2 : Int32) → ((¬ nI t = (3 : Int32) → post (sumE f g (nI j) 20) 0) ∧ (nI t = (3 : Int32) → post (nI (dN n pj fr)) 0))) ∧ (nI t = (2 : Int32) → ((bl j = 0 → post 0 0) ∧ (¬ bl j = 0 → post 1 0))))) ∧ (nI t = (1 : Int32) → post (nI (cntN f (nI j) 20)) 0))) ∧ (nI t = 0 → post (pl j) 0)) → p_M_shelf (nI j) (nI t) (nI n) (nI fr) pl bl f g post := by
        intro post h
        refine e_none_i hj (by omega) ⟨fun _ => e_none_i (n := 5) ht (by decide) ⟨fun _ => ⟨fun n0 => ⟨fun n1 => ⟨fun n2 => ⟨fun n3 => e_sum ((((h.1 n0).1 n1).1 n2).1 n3), fun e => ⟨vj, ?_⟩⟩, fun e => ⟨vj, ?_⟩⟩, fun e => e_lying ((h.1 n0).2 e)⟩, fun e => ⟨vj, ?_⟩⟩, fun c => absurd rfl c⟩, fun c => absurd rfl c⟩
        · rw [cj, ej]
          exact e_distM hpj (by omega) hn ((((h.1 n0).1 n1).1 n2).2 e)
        · rw [cj]
          exact ((h.1 n0).1 n1).2 e
        · rw [cj]
          exact h.2 e
      have nn : ∀ a b : Nat, a < 5 → b < 5 → a ≠ b → ¬ nI a = nI b := fun a b ha hb hab e => hab (nI_inj (by omega) (by omega) e)
      rcases (show t = 0 ∨ t = 1 ∨ t = 2 ∨ t = 3 ∨ t = 4 by omega) with rfl | rfl | rfl | rfl | rfl
      · exact ⟨fun _ => ⟨vj, by rw [cj]; exact ⟨v01, v1, v2, M ⟨fun c => absurd rfl c, fun _ => chkI_up rfl (h0 _ _)⟩⟩⟩, fun c => absurd rfl c⟩
      · exact ⟨fun e => absurd e (nn 1 0 (by decide) (by decide) (by decide)), fun _ => ⟨fun _ => e_unitsOn ⟨v01, v1, v2, M ⟨fun _ => ⟨fun c => absurd rfl c, fun _ => chkI_up rfl (h0 _ _)⟩, fun e => absurd e (nn 1 0 (by decide) (by decide) (by decide))⟩⟩, fun c => absurd rfl c⟩⟩
      · refine ⟨fun e => absurd e (nn 2 0 (by decide) (by decide) (by decide)), fun _ => ⟨fun e => absurd e (nn 2 1 (by decide) (by decide) (by decide)), fun _ => ⟨fun _ => ⟨vj, ?_⟩, fun c => absurd rfl c⟩⟩⟩
        rw [cj]
        have M2 : ∀ {post : Int32 → Int32 → Prop}, ((bl j = 0 → post 0 0) ∧ (¬ bl j = 0 → post 1 0)) → p_M_shelf (nI j) (nI 2) (nI n) (nI fr) pl bl f g post := fun h => M ⟨fun _ => ⟨fun _ => ⟨fun c => absurd rfl c, fun _ => h⟩, fun e => absurd e (nn 2 1 (by decide) (by decide) (by decide))⟩, fun e => absurd e (nn 2 0 (by decide) (by decide) (by decide))⟩
        exact ⟨fun q => ⟨v01, v1, v2, M2 ⟨fun _ => chkI_up rfl (h0 _ _), fun c => absurd q c⟩⟩, fun q => ⟨v01, v1, v2, M2 ⟨fun c => absurd c q, fun _ => chkI_up rfl (h0 _ _)⟩⟩⟩
      · refine ⟨fun e => absurd e (nn 3 0 (by decide) (by decide) (by decide)), fun _ => ⟨fun e => absurd e (nn 3 1 (by decide) (by decide) (by decide)), fun _ => ⟨fun e => absurd e (nn 3 2 (by decide) (by decide) (by decide)), fun _ => ⟨fun _ => ⟨vj, ?_⟩, fun c => absurd rfl c⟩⟩⟩⟩
        rw [cj, ej]
        exact e_distC (by omega) hpj hn ⟨v01, v1, v2, M ⟨fun _ => ⟨fun _ => ⟨fun _ => ⟨fun c => absurd rfl c, fun _ => chkI_up (by rw [dN_comm]) (h0 _ _)⟩, fun e => absurd e (nn 3 2 (by decide) (by decide) (by decide))⟩, fun e => absurd e (nn 3 1 (by decide) (by decide) (by decide))⟩, fun e => absurd e (nn 3 0 (by decide) (by decide) (by decide))⟩⟩
      · refine ⟨fun e => absurd e (nn 4 0 (by decide) (by decide) (by decide)), fun _ => ⟨fun e => absurd e (nn 4 1 (by decide) (by decide) (by decide)), fun _ => ⟨fun e => absurd e (nn 4 2 (by decide) (by decide) (by decide)), fun _ => ⟨fun e => absurd e (nn 4 3 (by decide) (by decide) (by decide)), fun _ => ⟨fun _ => ?_, fun c => absurd rfl c⟩⟩⟩⟩⟩
        exact e_countsOn ⟨v01, v1, v2, M ⟨fun _ => ⟨fun _ => ⟨fun _ => ⟨fun _ => chkI_up rfl (h0 _ _), fun e => absurd e (nn 4 3 (by decide) (by decide) (by decide))⟩, fun e => absurd e (nn 4 2 (by decide) (by decide) (by decide))⟩, fun e => absurd e (nn 4 1 (by decide) (by decide) (by decide))⟩, fun e => absurd e (nn 4 0 (by decide) (by decide) (by decide))⟩⟩
-- rest
def bst (g : Nat → Int32) : Nat → Nat
  | 0 => 0
  | i + 1 => if i = 0 then 0 else if g i ≤ g (bst g i) then bst g i else i
theorem bst_lt (g : Nat → Int32) : ∀ i, 0 < i → bst g i < i
  | 0, h => absurd h (Nat.lt_irrefl 0)
  | i + 1, _ => by
    by_cases e : i = 0
    · simp [bst, e]
    · have := bst_lt g i (by omega)
      simp only [bst, if_neg e]
      split <;> omega
theorem bst_1 (g : Nat → Int32) : bst g 1 = 0 := rfl
theorem bst_le {g : Nat → Int32} {i : Nat} (h : i ≠ 0) (c : g i ≤ g (bst g i)) : bst g (i + 1) = bst g i := by simp only [bst, if_neg h, if_pos c]
theorem bst_gt {g : Nat → Int32} {i : Nat} (h : i ≠ 0) (c : ¬ g i ≤ g (bst g i)) : bst g (i + 1) = i := by simp only [bst, if_neg h, if_neg c]
def sh9 (f c : Nat → Int32) (k : Nat) : Int32 := sumE f c (nI k) 20
theorem sh9_e (f c : Nat → Int32) : ∃ g : Nat → Int32, g = sh9 f c ∧ ∀ k, sumE f c (nI k) 20 = g k := ⟨sh9 f c, rfl, fun _ => rfl⟩
theorem e_restC {n : Nat} {pl f c : Nat → Int32} {post : Int32 → Prop} (hn : n ≤ 24) (h0 : n = 0 → post (-1)) (h1 : n ≠ 0 → post (pl (bst (sh9 f c) n))) : p_C_rest (nI n) pl f c post := by
  obtain ⟨g, hg, hge⟩ := sh9_e f c
  rw [← hg] at h1
  clear hg
  refine ⟨fun hz => ?_, fun hz => h0 ?_⟩
  · have hn0 : n ≠ 0 := fun e => hz (by rw [e]; exact nI_0)
    refine e_countsOn ?_
    have e0 : sumE f c (0 : Int32) 20 = g 0 := hge 0
    rw [e0]
    obtain ⟨m, hm⟩ := pk_loop (fun m i (s : Int32 × Int32) => p_C_rest_L19 (nI n) f c (fun k_9 _ _ => (vp_in k_9 24 ∧ post (pl (k_9).toNatClampNeg))) m s.1 s.2 (nI i)) (fun i s => 1 ≤ i ∧ s = (nI (bst g i), g (bst g i))) n 1 (nI 0, g 0) (by omega) ⟨Nat.le_refl 1, rfl⟩ (by
        intro m s hI
        obtain ⟨_, rfl⟩ := hI
        have hb := bst_lt g n (by omega)
        refine ⟨fun _ => ⟨vp_in_nI (show bst g n < 24 by omega) (by decide), ?_⟩, fun c => absurd (nI_le (Nat.le_refl n) (by omega)) c⟩
        show post (pl (nI (bst g n)).toNatClampNeg)
        rw [nI_clamp (by omega)]
        exact h1 hn0) (by
        intro m i s hi hI hr
        obtain ⟨h1i, rfl⟩ := hI
        refine ⟨fun c => absurd c (nI_ge hi (by omega)), fun _ => e_countsOn ?_⟩
        rw [hge, nI_1]
        refine ⟨fun q => ?_, fun q => ?_⟩
        · exact hr (nI (bst g i), g (bst g i)) ⟨by omega, by rw [bst_le (by omega) q]⟩
        · exact hr (nI i, g i) ⟨by omega, by rw [bst_gt (by omega) q]⟩)
    exact ⟨m, hm⟩
  · exact (nI_eq (b := 0) (by omega) (by decide)).mp hz
theorem e_restM {n : Nat} {pl f c : Nat → Int32} {post : Int32 → Int32 → Prop} (hn : n ≤ 24) (h0 : n = 0 → post (-1) 0) (h1 : n ≠ 0 → post (pl (bst (sh9 f c) n)) 0) : p_M_rest (nI n) pl f c post := by
  obtain ⟨g, hg, hge⟩ := sh9_e f c
  rw [← hg] at h1
  clear hg
  refine pk_loop (fun m i (s : Int32) => p_M_rest_L9 (nI n) f c (fun k_13 _ => ((0 ≤ k_13 → (vp_in k_13 24 ∧ post (pl (k_13).toNatClampNeg) (0 : Int32))) ∧ (¬ 0 ≤ k_13 → post (-1 : Int32) (0 : Int32)))) m s (nI i)) (fun i s => (i = 0 ∧ s = -1) ∨ (i ≠ 0 ∧ s = nI (bst g i))) n 0 (-1) (Nat.zero_le _) (Or.inl ⟨rfl, rfl⟩) ?_ ?_
  · intro m s hI
    refine ⟨fun _ => ?_, fun c => absurd (nI_le (Nat.le_refl n) (by omega)) c⟩
    rcases hI with ⟨e, rfl⟩ | ⟨e, rfl⟩
    · exact ⟨fun c => absurd c (by decide), fun _ => h0 e⟩
    · have hb := bst_lt g n (by omega)
      refine ⟨fun _ => ⟨vp_in_nI (show bst g n < 24 by omega) (by decide), ?_⟩, fun c => absurd (nn32 (by omega)) c⟩
      rw [nI_clamp (by omega)]
      exact h1 e
  · intro m i s hi hI hr
    refine ⟨fun c => absurd c (nI_ge hi (by omega)), fun _ => ?_⟩
    rw [nI_1]
    rcases hI with ⟨e, rfl⟩ | ⟨e, rfl⟩
    · subst e
      exact ⟨fun _ => hr _ (Or.inr ⟨by decide, rfl⟩), fun c => absurd m1_neg c⟩
    · have hb := bst_lt g i (by omega)
      refine ⟨fun c => absurd c (nI_pos (by omega)), fun _ => e_sum ?_⟩
      rw [hge]
      refine e_sum ?_
      rw [hge]
      refine ⟨fun q => ?_, fun q => ?_⟩
      · exact hr _ (Or.inr ⟨by omega, by rw [bst_le e q]⟩)
      · exact hr _ (Or.inr ⟨by omega, by rw [bst_gt e q]⟩)
theorem op_rest {n : Nat} {pl f c : Nat → Int32} {REC : Int32 → Prop} (hn : n ≤ 24) (h0 : ∀ th, REC th) : p_C_rest (nI n) pl f c (fun r => p_M_rest (nI n) pl f c (fun b th => eqc r b (REC th))) :=
  e_restC hn (fun e => e_restM hn (fun _ => eqc_i rfl (h0 _)) (fun z => absurd e z)) (fun e => e_restM hn (fun z => absurd z e) (fun _ => eqc_i rfl (h0 _)))
-- days
theorem shl9 : ∀ n, n < 32 → ((nI n &&& 31).toBitVec.smod 32).toNat = n := by decide +kernel
def hv (g : Nat → Int32) (k : Nat) : Nat → Int32 := fun u => if u < 20 then nI ((g u).toNatClampNeg / 2 ^ k) else g u
def hvI (g : Nat → Int32) (k i : Nat) : Nat → Int32 := fun u => if u < i then nI ((g u).toNatClampNeg / 2 ^ k) else g u
theorem hvI_up {g : Nat → Int32} {k i : Nat} : upd (hvI g k i) i (nI ((g i).toNatClampNeg / 2 ^ k)) = hvI g k (i + 1) := by
  funext u
  by_cases e : u = i
  · subst e
    rw [pk_us]
    simp only [hvI]
    rw [if_pos (by omega)]
  · rw [pk_un e]
    simp only [hvI]
    by_cases h : u < i
    · rw [if_pos h, if_pos (by omega)]
    · rw [if_neg h, if_neg (by omega)]
theorem hvI_0 (g : Nat → Int32) (k : Nat) : hvI g k 0 = g := by
  funext u
  simp [hvI]
def nng (g : Nat → Int32) : Prop := ∀ u, u < 20 → ∃ c : Nat, c < 2 ^ 31 ∧ g u = nI c
theorem hv_nng {g : Nat → Int32} {k : Nat} (h : nng g) : nng (hv g k) := by
  intro u hu
  obtain ⟨c, hc, e⟩ := h u hu
  refine ⟨c / 2 ^ k, Nat.lt_of_le_of_lt (Nat.div_le_self _ _) hc, ?_⟩
  simp only [hv]
  rw [if_pos hu, e, nI_clamp hc]
theorem hv_0 {g : Nat → Int32} (h : nng g) : hv g 0 = g := by
  funext u
  simp only [hv]
  by_cases hu : u < 20
  · obtain ⟨c, hc, e⟩ := h u hu
    rw [if_pos hu, e, nI_clamp hc]
    simp
  · rw [if_neg hu]
theorem hv_1 {g : Nat → Int32} {k : Nat} (h : nng g) : hv (hv g k) 1 = hv g (k + 1) := by
  funext u
  by_cases hu : u < 20
  · obtain ⟨c, hc, e⟩ := h u hu
    have h2 : c / 2 ^ k < 2 ^ 31 := Nat.lt_of_le_of_lt (Nat.div_le_self _ _) hc
    have e1 : hv g k u = nI (c / 2 ^ k) := by simp only [hv]; rw [if_pos hu, e, nI_clamp hc]
    have e2 : hv g (k + 1) u = nI (c / 2 ^ (k + 1)) := by simp only [hv]; rw [if_pos hu, e, nI_clamp hc]
    rw [e2]
    show (if u < 20 then nI ((hv g k u).toNatClampNeg / 2 ^ 1) else hv g k u) = _
    rw [if_pos hu, e1, nI_clamp h2, Nat.div_div_eq_div_mul, ← Nat.pow_add]
  · simp only [hv]
    rw [if_neg hu, if_neg hu]
    rw [if_neg hu]
theorem e_daysC {k : Nat} {g : Nat → Int32} {post : (Nat → Int32) → Prop} (hk : k < 31) (hg : nng g) (h : post (hv g k)) : ∃ n, p_C_days_L22 (nI k) (fun (_ : Int32) (k_12 : Nat → Int32) => post k_12) n (0 : Int32) g := by
  refine pk_loop (fun n i (s : Nat → Int32) => p_C_days_L22 (nI k) (fun _ k_12 => post k_12) n (nI i) s) (fun i s => s = hvI g k i) 20 0 g (by decide) (hvI_0 g k).symm ?_ ?_
  · intro n s hI
    subst hI
    exact ⟨fun _ => h, fun c => absurd (nI_le (Nat.le_refl 20) (by decide)) c⟩
  · intro n i s hi hI hr
    subst hI
    refine ⟨fun c => absurd c (nI_ge hi (by decide)), fun _ => ⟨vp_in_nI hi (by decide), vp_in_nI hi (by decide), ?_⟩⟩
    obtain ⟨c, hc, e⟩ := hg i hi
    rw [nI_clamp (by omega), nI_1]
    refine hr _ ?_
    have e1 : hvI g k i i = nI c := by simp only [hvI]; rw [if_neg (Nat.lt_irrefl i), e]
    rw [e1, pk_shrN hc _ k (shl9 k (by omega)), ← hvI_up, e, nI_clamp hc]
theorem e_halfM {g : Nat → Int32} {K : Int32 → (Nat → Int32) → Prop} (hg : nng g) (h : ∀ x, K x (hv g 1)) : ∃ n, p_M_days_L34 K n (0 : Int32) g := by
  refine pk_loop (fun n i (s : Nat → Int32) => p_M_days_L34 K n (nI i) s) (fun i s => s = hvI g 1 i) 20 0 g (by decide) (hvI_0 g 1).symm ?_ ?_
  · intro n s hI
    subst hI
    exact ⟨fun _ => h _, fun c => absurd (nI_le (Nat.le_refl 20) (by decide)) c⟩
  · intro n i s hi hI hr
    subst hI
    refine ⟨fun c => absurd c (nI_ge hi (by decide)), fun _ => ⟨vp_in_nI hi (by decide), by decide, vp_in_nI hi (by decide), ?_⟩⟩
    obtain ⟨c, hc, e⟩ := hg i hi
    rw [nI_clamp (by omega), nI_1]
    refine hr _ ?_
    have e1 : hvI g 1 i i = nI c := by simp only [hvI]; rw [if_neg (Nat.lt_irrefl i), e]
    have e2 : nI c / (2 : Int32) = nI (c / 2) := pk_div (d := 2) hc (by decide) (by decide)
    rw [e1, e2, ← hvI_up, e, nI_clamp hc, Nat.pow_one]
theorem op_days {x1 : Int32} {g : Nat → Int32} {V1 : Prop} {REC : (Nat → Int32) → Int32 → (Nat → Int32) → Prop} (v1 : V1) (hg : nng g) (h0 : ∀ th, REC g th g) (h1 : ∀ k, k < 31 → ∀ th, REC (hv g k) th (hv g k)) :
    V1 ∧ p_L_days x1 g (fun r g' => V1 ∧ p_M_days x1 g (fun th g'' => eqc th r (REC g' th g''))) := by
  refine ⟨v1, ?_⟩
  show p_C_days x1 g _ _
  rcases rng x1 (show 31 < 2 ^ 31 by decide) with hx | ⟨k, hk, rfl⟩
  · have M : p_M_days x1 g (fun th g'' => eqc th 1 (REC g th g'')) := by
      refine e_none_o (n := 31) hx ⟨fun c => absurd c one_ne, fun _ => ⟨1, ?_⟩⟩
      exact ⟨fun _ => eqc_i rfl (h0 _), fun _ => ⟨fun _ => eqc_i rfl (h0 _), fun c => absurd c one_ne⟩⟩
    rcases hx with hx | hx
    · exact ⟨fun _ => ⟨rfl, v1, M⟩, fun c => absurd hx c⟩
    · refine ⟨fun _ => ⟨rfl, v1, M⟩, fun _ => ⟨fun c => ?_, fun _ => ⟨rfl, v1, M⟩⟩⟩
      have h30 : (30 : Int32) < nI 31 := by decide
      exact absurd (Int32.lt_of_le_of_lt c h30) (nlt_of_le hx)
  · refine ⟨fun c => absurd c (nI_pos (by omega)), fun _ => ⟨fun _ => e_daysC hk hg ⟨v1, ?_⟩, fun c => absurd ((nI_leI (b := 30) (by omega) (by decide)).mpr (by omega)) c⟩⟩
    refine e_none_i (n := 31) hk (by decide) ⟨fun _ => ?_, fun c => absurd rfl c⟩
    refine pk_loop (fun n i (s : Nat → Int32) => p_M_days_L20 (nI k) (0 : Int32) (fun (_ : Int32) (k_30 : Nat → Int32) => eqc 0 0 (REC (hv g k) 0 k_30)) n (nI i) s) (fun i s => s = hv g i) k 0 g (Nat.zero_le _) (hv_0 hg).symm ?_ ?_
    · intro n s hI
      subst hI
      exact ⟨fun _ => eqc_i rfl (h1 k hk _), fun c => absurd (nI_le (Nat.le_refl k) (by omega)) c⟩
    · intro n i s hi hI hr
      subst hI
      refine ⟨fun c => absurd c (nI_ge hi (by omega)), fun _ => ⟨fun c => absurd rfl c, fun _ => ?_⟩⟩
      rw [nI_1]
      exact e_halfM (hv_nng hg) (fun _ => hr _ (hv_1 hg))
