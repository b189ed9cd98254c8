/-! PURE PART 2: the law's comparisons, the short calls -/
theorem lgc (x : Int64) : lg_cmp x x = 0 := by simp [lg_cmp]
theorem v01 : vp_in (0 : Int32) 1 := vp_in_nI (show 0 < 1 by decide) (by decide)
def chkI (r : Int32) (o : Nat → Int64) (b th : Int32) (R : Prop) : Prop := ((th = r → ((¬ r = 0 → R) ∧ (r = 0 → (vp_in (0 : Int32) 1 ∧ (((lg_cmp (o ((0 : Int32)).toNatClampNeg) ((b).toInt64)) = 0 → R) ∧ (¬ (lg_cmp (o ((0 : Int32)).toNatClampNeg) ((b).toInt64)) = 0 → False)))))) ∧ (¬ th = r → False))
theorem chkI_thr {k : Int32} {o : Nat → Int64} {b : Int32} {R : Prop} (hk : ¬ k = 0) (hR : R) : chkI k o b k R := ⟨fun _ => ⟨fun _ => hR, fun c => absurd c hk⟩, fun c => absurd rfl c⟩
theorem chkI_ok {o : Nat → Int64} {b : Int32} {R : Prop} (ho : o ((0 : Int32)).toNatClampNeg = b.toInt64) (hR : R) : chkI 0 o b 0 R :=
  ⟨fun _ => ⟨fun _ => hR, fun _ => ⟨v01, fun _ => hR, fun c => absurd (by rw [ho]; exact lgc _) c⟩⟩, fun c => absurd rfl c⟩
theorem chkI_up {out : Nat → Int64} {b r : Int32} {R : Prop} (e : r = b) (hR : R) : chkI 0 (vp_updL out ((0 : Int32)).toNatClampNeg r.toInt64) b 0 R := chkI_ok (by rw [pk_uLs, e]) hR
def chkB (r : Int32) (o : Nat → Int64) (b th : Int32) (R : Prop) : Prop := ((th = r → ((¬ r = 0 → R) ∧ (r = 0 → (vp_in (0 : Int32) 1 ∧ ((b = 0 → (((lg_cmp (o ((0 : Int32)).toNatClampNeg) (0 : Int64)) = 0 → R) ∧ (¬ (lg_cmp (o ((0 : Int32)).toNatClampNeg) (0 : Int64)) = 0 → False))) ∧ (¬ b = 0 → (((lg_cmp (o ((0 : Int32)).toNatClampNeg) (1 : Int64)) = 0 → R) ∧ (¬ (lg_cmp (o ((0 : Int32)).toNatClampNeg) (1 : Int64)) = 0 → False)))))))) ∧ (¬ th = r → False))
theorem chkB_thr {k : Int32} {o : Nat → Int64} {b : Int32} {R : Prop} (hk : ¬ k = 0) (hR : R) : chkB k o b k R := ⟨fun _ => ⟨fun _ => hR, fun c => absurd c hk⟩, fun c => absurd rfl c⟩
theorem chkB_0 {out : Nat → Int64} {R : Prop} (hR : R) : chkB 0 (vp_updL out ((0 : Int32)).toNatClampNeg (0 : Int64)) 0 0 R :=
  ⟨fun _ => ⟨fun _ => hR, fun _ => ⟨v01, fun _ => ⟨fun _ => hR, fun c => absurd (by rw [pk_uLs]; exact lgc _) c⟩, fun c => absurd rfl c⟩⟩, fun c => absurd rfl c⟩
theorem chkB_1 {out : Nat → Int64} {b : Int32} {R : Prop} (hb : ¬ b = 0) (hR : R) : chkB 0 (vp_updL out ((0 : Int32)).toNatClampNeg (1 : Int64)) b 0 R :=
  ⟨fun _ => ⟨fun _ => hR, fun _ => ⟨v01, fun c => absurd c hb, fun _ => ⟨fun _ => hR, fun c => absurd (by rw [pk_uLs]; exact lgc _) c⟩⟩⟩, fun c => absurd rfl c⟩
/-- a truth that is told: 0 or 1 -/
theorem chkB_v {out : Nat → Int64} {b : Int32} {R : (Nat → Int64) → Prop} (hR : ∀ o, R o) : ((b = 0 → (vp_in (0 : Int32) 1 ∧ chkB 0 (vp_updL out ((0 : Int32)).toNatClampNeg (0 : Int64)) b 0 (R (vp_updL out ((0 : Int32)).toNatClampNeg (0 : Int64))))) ∧ (¬ b = 0 → (vp_in (0 : Int32) 1 ∧ chkB 0 (vp_updL out ((0 : Int32)).toNatClampNeg (1 : Int64)) b 0 (R (vp_updL out ((0 : Int32)).toNatClampNeg (1 : Int64)))))) :=
  ⟨fun e => ⟨v01, by subst e; exact chkB_0 (hR _)⟩, fun e => ⟨v01, chkB_1 e (hR _)⟩⟩
-- distance
def dN (n a b : Nat) : Nat := if n - (if b ≤ a then a - b else b - a) < (if b ≤ a then a - b else b - a) then n - (if b ≤ a then a - b else b - a) else (if b ≤ a then a - b else b - a)
theorem neg_sub32 (x y : Int32) : 0 - (x - y) = y - x := by grind
theorem nn32 {w : Nat} (h : w < 2 ^ 31) : 0 ≤ nI w := nI_pos' h
theorem e_distC {a b n : Nat} {post : Int32 → Prop} (ha : a < n) (hb : b < n) (hn : n ≤ 24) (h : post (nI (dN n a b))) : p_C_distance (nI a) (nI b) (nI n) post := by
  have key : (if 0 ≤ (nI a - nI b) then (nI a - nI b) else 0 - (nI a - nI b)) = nI (if b ≤ a then a - b else b - a) := by
    by_cases hba : b ≤ a
    · rw [if_pos hba, pk_sub hba, if_pos (nn32 (by omega))]
    · rw [if_neg hba, if_neg (fun c => (Int32.not_lt.mpr c) (pk_sneg (by omega) (by omega))), neg_sub32, pk_sub (by omega)]
  show post _
  rw [key, pk_sub (show (if b ≤ a then a - b else b - a) ≤ n by split <;> omega)]
  generalize hw : (if b ≤ a then a - b else b - a) = w at *
  have hwn : w < n := by rw [← hw]; split <;> omega
  have e : (if nI (n - w) < nI w then nI (n - w) else nI w) = nI (dN n a b) := by
    unfold dN
    rw [hw]
    by_cases hc : n - w < w
    · rw [if_pos ((nI_ltI (by omega) (by omega)).mpr hc), if_pos hc]
    · rw [if_neg (fun c => hc ((nI_ltI (by omega) (by omega)).mp c)), if_neg hc]
  rw [e]
  exact h
theorem e_distM {a b n : Nat} {post : Int32 → Prop} (ha : a < n) (hb : b < n) (hn : n ≤ 24) (h : post (nI (dN n a b))) : p_M_distance (nI a) (nI b) (nI n) post := by
  have hd : ∀ w : Nat, w < n → w = (if b ≤ a then a - b else b - a) → ((nI n - nI w < nI w → post (nI n - nI w)) ∧ (¬ nI n - nI w < nI w → post (nI w))) := by
    intro w hw e
    rw [pk_sub (by omega : w ≤ n)]
    refine ⟨fun c => ?_, fun c => ?_⟩
    · have h2 := (nI_ltI (by omega) (by omega)).mp c
      have : dN n a b = n - w := by unfold dN; rw [← e, if_pos h2]
      rw [← this]; exact h
    · have h2 : ¬ n - w < w := fun z => c ((nI_ltI (by omega) (by omega)).mpr z)
      have : dN n a b = w := by unfold dN; rw [← e, if_neg h2]
      rw [← this]; exact h
  refine ⟨fun c => ?_, fun c => ?_⟩
  · have hba := (nI_leI (by omega) (by omega)).mp c
    rw [pk_sub hba]
    exact hd (a - b) (by omega) (by rw [if_pos hba])
  · have hba : ¬ b ≤ a := fun z => c ((nI_leI (by omega) (by omega)).mpr z)
    rw [pk_sub (by omega : a ≤ b)]
    exact hd (b - a) (by omega) (by rw [if_neg hba])
theorem dN_comm (n a b : Nat) : dN n a b = dN n b a := by
  unfold dN
  have e : (if b ≤ a then a - b else b - a) = (if a ≤ b then b - a else a - b) := by
    by_cases h1 : b ≤ a <;> by_cases h2 : a ≤ b <;> simp only [h1, h2, if_true, if_false] <;> omega
  rw [e]
-- the calls
theorem op_put {x1 x2 : Int32} {n : Nat} {f : Nat → Int32} {out : Nat → Int64} {V1 V2 : Prop} {REC : (Nat → Int32) → (Nat → Int64) → Int32 → (Nat → Int32) → Prop} (v1 : V1) (v2 : V2) (hn : n ≤ 24) (hf : ∀ u, u < 20 → f u = -1 ∨ ∃ k, k < n ∧ f u = nI k) (hc : ∀ k, k < n → cntN f (nI k) 20 ≤ 4)
    (h0 : ∀ o th, REC f o th f) (h1 : ∀ k j, k < n → j < 20 → f j = -1 → cntN f (nI k) 20 < 4 → ∀ o th, REC (upd f j (nI k)) o th (upd f j (nI k))) :
    V1 ∧ (V2 ∧ p_L_put x1 x2 (nI n) f out (fun r f' o => V1 ∧ (V2 ∧ p_M_put x1 x2 (nI n) f (fun b th f'' => chkI r o b th (REC f' o th f''))))) := by
  refine ⟨v1, v2, ?_⟩
  show p_C_put x1 x2 (nI n) f _ _
  rcases rng x1 (show n < 2 ^ 31 by omega) with hx | ⟨k, hk, rfl⟩
  · exact e_needShelf_o hx (Or.inl ⟨rfl, v1, v2, e_none_o hx ⟨fun c => absurd c one_ne, fun _ => chkI_thr (by decide) (h0 _ _)⟩⟩)
  · refine e_needShelf_i hk (by omega) ?_
    rcases rng x2 (show 20 < 2 ^ 31 by decide) with hy | ⟨j, hj, rfl⟩
    · exact e_needUnit_o hy (Or.inr (Or.inl ⟨rfl, v1, v2, e_none_i hk (by omega) ⟨fun _ => e_none_o (n := 20) hy ⟨fun c => absurd c one_ne, fun _ => chkI_thr (by decide) (h0 _ _)⟩, fun c => absurd rfl c⟩⟩))
    · have ej : (nI j).toNatClampNeg = j := nI_clamp (by omega)
      have M : ∀ {post : Int32 → Int32 → (Nat → Int32) → Prop}, (((f (nI j).toNatClampNeg) < 0 → (p_M_lying (nI k) f (fun r_7 => ((¬ r_7 = (4 : Int32) → (vp_in (nI j) 20 ∧ (p_M_lying (nI k) (upd f (nI j).toNatClampNeg (nI k)) (fun r_11 => post r_11 (0 : Int32) (upd f (nI j).toNatClampNeg (nI k)))))) ∧ (r_7 = (4 : Int32) → post (0 : Int32) (4 : Int32) f))))) ∧ (¬ (f (nI j).toNatClampNeg) < 0 → post (0 : Int32) (3 : Int32) f)) → p_M_put (nI k) (nI j) (nI n) f post := fun h =>
        e_none_i hk (by omega) ⟨fun _ => e_none_i (n := 20) hj (by decide) ⟨fun _ => ⟨vp_in_nI hj (by decide), h⟩, fun c => absurd rfl c⟩, fun c => absurd rfl c⟩
      refine e_needUnit_i hj ⟨vp_in_nI hj (by decide), fun c => ?_, fun c => ?_⟩
      · rw [ej] at c
        refine e_unitsOn ?_
        have h4 : (nI (cntN f (nI k) 20) < (4 : Int32)) ↔ cntN f (nI k) 20 < 4 := nI_ltI (b := 4) (by have := cntN_le f (nI k) 20; omega) (by decide)
        have h5 : (nI (cntN f (nI k) 20) = (4 : Int32)) ↔ cntN f (nI k) 20 = 4 := nI_eq (b := 4) (by have := cntN_le f (nI k) 20; omega) (by decide)
        have hk4 := hc k hk
        refine ⟨fun q => ⟨vp_in_nI hj (by decide), v01, v1, v2, M ⟨fun _ => e_lying ⟨fun _ => ⟨vp_in_nI hj (by decide), e_lying ?_⟩, fun q2 => ?_⟩, fun q2 => absurd (by rw [ej, c]; exact m1_neg) q2⟩⟩, fun q => Or.inr (Or.inr (Or.inr ⟨rfl, v1, v2, M ⟨fun _ => e_lying ⟨fun q2 => ?_, fun _ => chkI_thr (by decide) (h0 _ _)⟩, fun q2 => absurd (by rw [ej, c]; exact m1_neg) q2⟩⟩))⟩
        · have q' := h4.mp q
          rw [ej, cntN_put (by rw [c]; exact fun e => nI_ne_m1 (by omega) e.symm) hj]
          exact chkI_up (nI_1 _) (h1 k j hk hj c q' _ _)
        · have q' := h4.mp q
          have := h5.mp q2
          omega
        · have h9 : ¬ cntN f (nI k) 20 < 4 := fun z => q (h4.mpr z)
          exact absurd (h5.mpr (by omega)) q2
      · rw [ej] at c
        refine Or.inr (Or.inr (Or.inl ⟨rfl, v1, v2, M ⟨fun q2 => ?_, fun _ => chkI_thr (by decide) (h0 _ _)⟩⟩))
        rw [ej] at q2
        rcases hf j hj with h | ⟨k2, hk2, h⟩
        · exact absurd h c
        · rw [h] at q2
          exact absurd q2 (nI_pos (by omega))
theorem op_learned {x1 : Int32} {g : Nat → Int32} {out : Nat → Int64} {V1 : Prop} {REC : (Nat → Int64) → Int32 → Prop} (v1 : V1) (h0 : ∀ o th, REC o th) :
    V1 ∧ p_L_learned x1 g out (fun r o => V1 ∧ p_M_learned x1 g (fun b th => chkI r o b th (REC o th))) := by
  refine ⟨v1, ?_⟩
  show p_C_learned x1 g _ _
  rcases rng x1 (show 20 < 2 ^ 31 by decide) with hx | ⟨j, hj, rfl⟩
  · exact e_needUnit_o hx ⟨rfl, v1, e_none_o (n := 20) hx ⟨fun c => absurd c one_ne, fun _ => chkI_thr (by decide) (h0 _ _)⟩⟩
  · exact e_needUnit_i hj ⟨vp_in_nI hj (by decide), v01, v1, e_none_i (n := 20) hj (by decide) ⟨fun _ => ⟨vp_in_nI hj (by decide), chkI_up rfl (h0 _ _)⟩, fun c => absurd rfl c⟩⟩
theorem op_unit {x1 : Int32} {g : Nat → Int32} {out : Nat → Int64} {V1 : Prop} {REC : (Nat → Int64) → Int32 → Prop} (v1 : V1) (h0 : ∀ o th, REC o th) :
    V1 ∧ p_L_unit x1 g out (fun r o => V1 ∧ p_M_unit x1 g (fun b th => chkI r o b th (REC o th))) := by
  refine ⟨v1, ?_⟩
  show p_C_unit x1 g _ _
  rcases rng x1 (show 20 < 2 ^ 31 by decide) with hx | ⟨j, hj, rfl⟩
  · exact e_needUnit_o hx ⟨rfl, v1, e_none_o (n := 20) hx ⟨fun c => absurd c one_ne, fun _ => chkI_thr (by decide) (h0 _ _)⟩⟩
  · exact e_needUnit_i hj ⟨vp_in_nI hj (by decide), v01, v1, e_none_i (n := 20) hj (by decide) ⟨fun _ => ⟨vp_in_nI hj (by decide), chkI_up rfl (h0 _ _)⟩, fun c => absurd rfl c⟩⟩
def isB (v : Int32) : Prop := v = 0 ∨ v = 1
theorem isB_nar {v : Int32} (h : isB v) : narrow .boolean (.int v) = .int v := by rcases h with rfl | rfl <;> rfl
theorem isB_n0 : vp_nar .boolean (0 : Int32) = 0 := rfl
theorem isB_n1 : vp_nar .boolean (1 : Int32) = 1 := rfl
theorem op_door {x1 z : Int32} {d : Nat → Int32} {out : Nat → Int64} {REC : (Nat → Int32) → (Nat → Int64) → Int32 → (Nat → Int32) → Prop} {Q : Int32 → (Nat → Int32) → (Nat → Int64) → Prop}
    (hd : ∀ j, j < 2 → isB (d j)) (h0 : ∀ o th, REC d o th d) (h1 : ∀ j, j < 2 → ∀ o th, REC (upd d j (vp_nar .boolean z)) o th (upd d j (vp_nar .boolean z))) (v : ∀ r d' o, p_M_door x1 z d (fun b th d'' => chkB r o b th (REC d' o th d'')) → Q r d' o) :
    p_L_door x1 z d out Q := by
  show p_C_door x1 z d _ _
  rcases rng x1 (show 2 < 2 ^ 31 by decide) with hx | ⟨j, hj, rfl⟩
  · exact e_needStation_o hx ⟨rfl, v _ _ _ (e_none_o (n := 2) hx ⟨fun c => absurd c one_ne, fun _ => chkB_thr (by decide) (h0 _ _)⟩)⟩
  · have ej : (nI j).toNatClampNeg = j := nI_clamp (by omega)
    have hv := vp_in_nI (n := j) (N := 2) hj (by decide)
    refine e_needStation_i hj ⟨hv, hv, by rw [ej]; exact isB_nar (hd j hj), ?_⟩
    rw [ej]
    have M : ∀ {post : Int32 → Int32 → (Nat → Int32) → Prop}, post (d j) 0 (upd d j (vp_nar .boolean z)) → p_M_door (nI j) z d post := fun h =>
      e_none_i (n := 2) hj (by decide) ⟨fun _ => ⟨hv, hv, by rw [ej]; exact isB_nar (hd j hj), by rw [ej]; exact h⟩, fun c => absurd rfl c⟩
    exact ⟨fun e => ⟨v01, v _ _ _ (M (by rw [e]; exact chkB_0 (h1 j hj _ _)))⟩, fun e => ⟨v01, v _ _ _ (M (chkB_1 e (h1 j hj _ _)))⟩⟩
theorem op_blocked {x1 z : Int32} {n : Nat} {d : Nat → Int32} {out : Nat → Int64} {REC : (Nat → Int32) → (Nat → Int64) → Int32 → (Nat → Int32) → Prop} {Q : Int32 → (Nat → Int32) → (Nat → Int64) → Prop} (hn : n ≤ 24)
    (hd : ∀ j, j < 24 → isB (d j)) (h0 : ∀ o th, REC d o th d) (h1 : ∀ j, j < n → ∀ o th, REC (upd d j (vp_nar .boolean z)) o th (upd d j (vp_nar .boolean z))) (v : ∀ r d' o, p_M_blocked x1 z (nI n) d (fun b th d'' => chkB r o b th (REC d' o th d'')) → Q r d' o) :
    p_L_blocked x1 z (nI n) d out Q := by
  show p_C_blocked x1 z (nI n) d _ _
  rcases rng x1 (show n < 2 ^ 31 by omega) with hx | ⟨j, hj, rfl⟩
  · exact e_needShelf_o hx ⟨rfl, v _ _ _ (e_none_o hx ⟨fun c => absurd c one_ne, fun _ => chkB_thr (by decide) (h0 _ _)⟩)⟩
  · have ej : (nI j).toNatClampNeg = j := nI_clamp (by omega)
    have hv := vp_in_nI (n := j) (N := 24) (by omega) (by decide)
    refine e_needShelf_i hj (by omega) ⟨hv, hv, by rw [ej]; exact isB_nar (hd j (by omega)), ?_⟩
    rw [ej]
    have M : ∀ {post : Int32 → Int32 → (Nat → Int32) → Prop}, post (d j) 0 (upd d j (vp_nar .boolean z)) → p_M_blocked (nI j) z (nI n) d post := fun h =>
      e_none_i hj (by omega) ⟨fun _ => ⟨hv, hv, by rw [ej]; exact isB_nar (hd j (by omega)), by rw [ej]; exact h⟩, fun c => absurd rfl c⟩
    exact ⟨fun e => ⟨v01, v _ _ _ (M (by rw [e]; exact chkB_0 (h1 j hj _ _)))⟩, fun e => ⟨v01, v _ _ _ (M (chkB_1 e (h1 j hj _ _)))⟩⟩
