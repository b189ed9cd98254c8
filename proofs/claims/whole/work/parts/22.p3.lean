/-! PURE PART 3: turn, want, move, pick, at, exact, clear, count, shelf -/
theorem op_turn {x1 tu : Int32} {n fr : Nat} {d : Nat → Int32} {out : Nat → Int64} {V1 : Prop} {REC : Int32 → Int32 → (Nat → Int64) → Int32 → Int32 → Int32 → Prop} (v1 : V1) (hn : n ≤ 24) (hfr : n = 0 ∨ fr < n)
    (h0 : ∀ o th, REC (nI fr) tu o th (nI fr) tu) (h1 : ∀ j, j < n → ∀ o th, REC (nI j) (tu + nI (dN n fr j)) o th (nI j) (tu + nI (dN n fr j))) :
    V1 ∧ p_L_turn x1 (nI n) (nI fr) tu d out (fun r f' t' o => V1 ∧ p_M_turn x1 (nI n) (nI fr) tu d (fun b th f'' t'' => chkI r o b th (REC f' t' o th f'' t''))) := by
  refine ⟨v1, ?_⟩
  show p_C_turn x1 (nI n) (nI fr) tu d _ _
  by_cases hz : n = 0
  · subst hz
    exact ⟨fun c => absurd nI_0 c, fun _ => Or.inl ⟨rfl, v1, fun c => absurd nI_0 c, fun _ => chkI_thr (by decide) (h0 _ _)⟩⟩
  · have hnz : ¬ nI n = 0 := nI_ne0 (by omega) (by omega)
    refine ⟨fun _ => ?_, fun c => absurd c hnz⟩
    rcases rng x1 (show n < 2 ^ 31 by omega) with hx | ⟨j, hj, rfl⟩
    · have M0 : ∀ o, p_M_turn x1 (nI n) (nI fr) tu d (fun b th f'' t'' => chkI 2 o b th (REC (nI fr) tu o th f'' t'')) := fun o =>
        ⟨fun _ => e_none_o hx ⟨fun c => absurd c one_ne, fun _ => chkI_thr (by decide) (h0 _ _)⟩, fun c => absurd c hnz⟩
      rcases hx with hx | hx
      · exact ⟨fun _ => Or.inr (Or.inl ⟨rfl, v1, M0 _⟩), fun c => absurd hx c⟩
      · exact ⟨fun _ => Or.inr (Or.inl ⟨rfl, v1, M0 _⟩), fun _ => ⟨fun c => absurd c (nlt_of_le hx), fun _ => Or.inr (Or.inl ⟨rfl, v1, M0 _⟩)⟩⟩
    · refine ⟨fun c => absurd c (nI_pos (by omega)), fun _ => ⟨fun _ => e_closed (fun ho => ?_) (fun ho => ?_), fun c => absurd (nI_lt hj (by omega)) c⟩⟩
      · exact Or.inr (Or.inr ⟨rfl, v1, fun _ => e_none_i hj (by omega) ⟨fun _ => e_anyDoor (fun _ => ⟨fun c => absurd c one_ne, fun _ => chkI_thr (by decide) (h0 _ _)⟩) (fun z => absurd ho z), fun c => absurd rfl c⟩, fun c => absurd c hnz⟩)
      · exact e_distC (by omega) hj hn ⟨v01, v1, fun _ => e_none_i hj (by omega) ⟨fun _ => e_anyDoor (fun z => absurd z ho) (fun _ => ⟨fun _ => e_distM (by omega) hj hn (chkI_up rfl (h1 j hj _ _)), fun c => absurd rfl c⟩), fun c => absurd rfl c⟩, fun c => absurd c hnz⟩
-- want
def fch (f bl : Nat → Int32) (n j : Nat) : Prop := ∃ k, k < n ∧ f j = nI k ∧ bl k = 0
theorem e_can {j n : Nat} {f bl : Nat → Int32} {post : Int32 → Prop} (hj : j < 20) (hn : n ≤ 24) (hf : f j = -1 ∨ ∃ k, k < n ∧ f j = nI k) (h1 : fch f bl n j → post 1) (h0 : ¬ fch f bl n j → post 0) : p_C_canBeFetched (nI j) (nI n) bl f post := by
  have ej : (nI j).toNatClampNeg = j := nI_clamp (by omega)
  refine ⟨vp_in_nI hj (by decide), ?_⟩
  rw [ej]
  rcases hf with h | ⟨k, hk, h⟩
  · refine e_isShelf_o (by rw [h]; exact Or.inl m1_neg) ⟨fun _ => h0 (fun ⟨k, hk, e, _⟩ => ?_), fun c => absurd rfl c⟩
    rw [h] at e
    exact nI_ne_m1 (by omega) e.symm
  · rw [h]
    have ek : (nI k).toNatClampNeg = k := nI_clamp (by omega)
    refine e_isShelf_i hk (by omega) ⟨fun c => absurd c one_ne, fun _ => ⟨vp_in_nI (show k < 24 by omega) (by decide), ?_, ?_⟩⟩
    · intro c
      rw [ek] at c
      refine h0 (fun ⟨k2, hk2, e, b⟩ => ?_)
      rw [h] at e
      have := nI_inj (by omega) (by omega) e
      subst this
      exact c b
    · intro c
      rw [ek] at c
      exact h1 ⟨k, hk, h, c⟩
theorem e_wantM {j n ll : Nat} {f bl list : Nat → Int32} {post : Int32 → Int32 → Int32 → (Nat → Int32) → Prop} (hj : j < 20) (hn : n ≤ 24) (hl : ll ≤ 8) (hf : f j = -1 ∨ ∃ k, k < n ∧ f j = nI k)
    (h2 : (¬ fch f bl n j ∨ isL list (nI j) ll) → post 0 2 (nI ll) list) (h3 : fch f bl n j → ¬ isL list (nI j) ll → ll = 8 → post 0 3 (nI ll) list) (h0 : fch f bl n j → ¬ isL list (nI j) ll → ll < 8 → post (nI ll + 1) 0 (nI ll + 1) (upd list ll (nI j))) : p_M_want (nI j) (nI ll) bl f list post := by
  have ej : (nI j).toNatClampNeg = j := nI_clamp (by omega)
  have hv := vp_in_nI (n := j) (N := 20) hj (by decide)
  refine e_none_i (n := 20) hj (by decide) ⟨fun _ => ⟨hv, ?_, ?_⟩, fun c => absurd rfl c⟩
  · intro c
    rw [ej] at c
    refine h2 (Or.inl (fun ⟨k, hk, e, _⟩ => ?_))
    rw [e] at c
    exact nI_pos (by omega) c
  · intro c
    rw [ej] at c
    rcases hf with h | ⟨k, hk, h⟩
    · exact absurd (by rw [h]; exact m1_neg) c
    · have ek : (nI k).toNatClampNeg = k := nI_clamp (by omega)
      refine e_isListedM hl (fun hi => ⟨fun c => absurd c one_ne, fun _ => h2 (Or.inr hi)⟩) (fun hi => ⟨fun _ => ⟨hv, ?_⟩, fun c => absurd rfl c⟩)
      rw [ej, h, ek]
      refine ⟨vp_in_nI (show k < 24 by omega) (by decide), fun b => ⟨fun q => ?_, fun q => ?_⟩, fun b => h2 (Or.inl (fun ⟨k2, hk2, e, b2⟩ => ?_))⟩
      · have q' : ¬ ll = 8 := fun e => q (by rw [e]; rfl)
        refine ⟨vp_in_nI (show ll < 8 by omega) (by decide), ?_⟩
        rw [nI_clamp (by omega)]
        exact h0 ⟨k, hk, h, b⟩ hi (by omega)
      · exact h3 ⟨k, hk, h, b⟩ hi ((nI_eq (b := 8) (by omega) (by decide)).mp q)
      · rw [h] at e
        have := nI_inj (by omega) (by omega) e
        subst this
        exact b b2
theorem op_want {x1 : Int32} {n ll : Nat} {f bl list : Nat → Int32} {out : Nat → Int64} {V1 : Prop} {REC : Int32 → (Nat → Int32) → (Nat → Int64) → Int32 → Int32 → (Nat → Int32) → Prop} (v1 : V1) (hn : n ≤ 24) (hl : ll ≤ 8) (hf : ∀ u, u < 20 → f u = -1 ∨ ∃ k, k < n ∧ f u = nI k)
    (h0 : ∀ o th, REC (nI ll) list o th (nI ll) list) (h1 : ∀ j, j < 20 → ll < 8 → ∀ o th, REC (nI ll + 1) (upd list ll (nI j)) o th (nI ll + 1) (upd list ll (nI j))) :
    V1 ∧ p_L_want x1 (nI n) (nI ll) bl f list out (fun r l' s' o => V1 ∧ p_M_want x1 (nI ll) bl f list (fun b th l'' s'' => chkI r o b th (REC l' s' o th l'' s''))) := by
  refine ⟨v1, ?_⟩
  show p_C_want x1 (nI n) (nI ll) bl f list _ _
  rcases rng x1 (show 20 < 2 ^ 31 by decide) with hx | ⟨j, hj, rfl⟩
  · exact e_needUnit_o hx (Or.inl ⟨rfl, v1, e_none_o (n := 20) hx ⟨fun c => absurd c one_ne, fun _ => chkI_thr (by decide) (h0 _ _)⟩⟩)
  · have two : ∀ {X : Prop}, (¬ fch f bl n j ∨ isL list (nI j) ll) → ∀ o, p_M_want (nI j) (nI ll) bl f list (fun b th l'' s'' => chkI 2 o b th (REC (nI ll) list o th l'' s'')) := fun hz o =>
      e_wantM hj hn hl (hf j hj) (fun _ => chkI_thr (by decide) (h0 _ _)) (fun a b _ => absurd hz (fun z => z.elim (fun y => y a) b)) (fun a b _ => absurd hz (fun z => z.elim (fun y => y a) b))
    refine e_needUnit_i hj (e_can hj hn (hf j hj) (fun hfc => ⟨fun _ => e_isListedC hl (fun hi => ⟨fun c => absurd c one_ne, fun _ => Or.inr (Or.inl ⟨rfl, v1, two (X := True) (Or.inr hi) _⟩)⟩) (fun hi => ⟨fun _ => ⟨fun q => ?_, fun q => ?_⟩, fun c => absurd rfl c⟩), fun c => absurd c one_ne⟩) (fun hfc => ⟨fun c => absurd rfl c, fun _ => Or.inr (Or.inl ⟨rfl, v1, two (X := True) (Or.inl hfc) _⟩)⟩))
    · have q' : ll < 8 := (nI_ltI (b := 8) (by omega) (by decide)).mp q
      refine ⟨vp_in_nI q' (by decide), v01, v1, ?_⟩
      rw [nI_clamp (by omega)]
      exact e_wantM hj hn hl (hf j hj) (fun hz => absurd hz (fun z => z.elim (fun y => y hfc) hi)) (fun _ _ e => by omega) (fun _ _ _ => chkI_up rfl (h1 j hj q' _ _))
    · have q' : ¬ ll < 8 := fun z => q ((nI_ltI (b := 8) (by omega) (by decide)).mpr z)
      exact Or.inr (Or.inr ⟨rfl, v1, e_wantM hj hn hl (hf j hj) (fun hz => absurd hz (fun z => z.elim (fun y => y hfc) hi)) (fun _ _ _ => chkI_thr (by decide) (h0 _ _)) (fun _ _ e => absurd e q')⟩)
-- move
theorem op_move {x1 x2 : Int32} {n : Nat} {pl sa d : Nat → Int32} {out : Nat → Int64} {V1 V2 : Prop} {REC : (Nat → Int32) → (Nat → Int32) → (Nat → Int64) → Int32 → (Nat → Int32) → Prop} (v1 : V1) (v2 : V2) (hn : n ≤ 24) (hp : ∀ j, j < n → ∃ p, p < n ∧ pl j = nI p)
    (h0 : ∀ o th, REC pl sa o th pl) (h1 : ∀ j k pj pk, j < n → k < n → j ≠ k → pj < n → pk < n → pl j = nI pj → pl k = nI pk → ∀ o th, REC (upd (upd pl j (nI pk)) k (nI pj)) (upd (upd sa pk (nI j)) pj (nI k)) o th (upd (upd pl j (nI pk)) k (nI pj))) :
    V1 ∧ (V2 ∧ p_L_move x1 x2 (nI n) pl sa d out (fun r p' s' o => V1 ∧ (V2 ∧ p_M_move x1 x2 (nI n) pl d (fun b th p'' => chkI r o b th (REC p' s' o th p''))))) := by
  refine ⟨v1, v2, ?_⟩
  show p_C_move x1 x2 (nI n) pl sa d _ _
  rcases rng x1 (show n < 2 ^ 31 by omega) with hx | ⟨j, hj, rfl⟩
  · exact e_needShelf_o hx (Or.inl ⟨rfl, v1, v2, e_none_o hx ⟨fun _ => chkI_thr (by decide) (h0 _ _), fun c => absurd c one_ne⟩⟩)
  · refine e_needShelf_i hj (by omega) ?_
    rcases rng x2 (show n < 2 ^ 31 by omega) with hy | ⟨k, hk, rfl⟩
    · exact e_needShelf_o hy (Or.inl ⟨rfl, v1, v2, e_none_i hj (by omega) ⟨fun c => absurd rfl c, fun _ => e_none_o hy ⟨fun c => absurd c one_ne, fun _ => chkI_thr (by decide) (h0 _ _)⟩⟩⟩)
    · obtain ⟨pj, hpj, ej⟩ := hp j hj
      obtain ⟨pk, hpk, ek⟩ := hp k hk
      have cj : (nI j).toNatClampNeg = j := nI_clamp (by omega)
      have ck : (nI k).toNatClampNeg = k := nI_clamp (by omega)
      have cpj : (nI pj).toNatClampNeg = pj := nI_clamp (by omega)
      have cpk : (nI pk).toNatClampNeg = pk := nI_clamp (by omega)
      have vj := vp_in_nI (n := j) (N := 24) (by omega) (by decide)
      have vk := vp_in_nI (n := k) (N := 24) (by omega) (by decide)
      have vpj := vp_in_nI (n := pj) (N := 24) (by omega) (by decide)
      have vpk := vp_in_nI (n := pk) (N := 24) (by omega) (by decide)
      refine e_needShelf_i hk (by omega) (e_closed (fun ho => ?_) (fun ho => ⟨fun hne => ?_, fun he => ?_⟩))
      · exact Or.inr ⟨rfl, v1, v2, e_none_i hj (by omega) ⟨fun c => absurd rfl c, fun _ => e_none_i hk (by omega) ⟨fun _ => e_anyDoor (fun _ => ⟨fun _ => chkI_thr (by decide) (h0 _ _), fun c => absurd c one_ne⟩) (fun z => absurd ho z), fun c => absurd rfl c⟩⟩⟩
      · have hjk : j ≠ k := fun e => hne (by rw [e])
        refine ⟨vj, vk, ?_⟩
        rw [cj, ck, ej, ek]
        refine ⟨vj, vpk, vk, vpj, ?_⟩
        rw [cj, ck, cpj, cpk]
        refine e_distC hpj hpk hn ⟨v01, v1, v2, e_none_i hj (by omega) ⟨fun c => absurd rfl c, fun _ => e_none_i hk (by omega) ⟨fun _ => e_anyDoor (fun z => absurd z ho) (fun _ => ⟨fun c => absurd rfl c, fun _ => ⟨fun _ => ⟨vj, vk, vj, vk, vj, vk, ?_⟩, fun c => absurd c hne⟩⟩), fun c => absurd rfl c⟩⟩⟩
        rw [cj, ck, ej, ek, pk_us, pk_un hjk, pk_us]
        exact e_distM hpk hpj hn (chkI_up (by rw [dN_comm]) (h1 j k pj pk hj hk hjk hpj hpk ej ek _ _))
      · exact Or.inr ⟨rfl, v1, v2, e_none_i hj (by omega) ⟨fun c => absurd rfl c, fun _ => e_none_i hk (by omega) ⟨fun _ => e_anyDoor (fun z => absurd z ho) (fun _ => ⟨fun c => absurd rfl c, fun _ => ⟨fun c => absurd he c, fun _ => chkI_thr (by decide) (h0 _ _)⟩⟩), fun c => absurd rfl c⟩⟩⟩
-- pick
theorem e_shelfAtM {n fr k0 : Nat} {pl : Nat → Int32} {post : Int32 → Prop} (hn : n ≤ 24) (hk : k0 < n) (hp : pl k0 = nI fr) (inj : ∀ j, j < n → pl j = nI fr → j = k0) (h : post (nI k0)) : p_M_shelfAt (nI fr) (nI n) pl post := by
  refine pk_loop (fun m i (_ : Unit) => p_M_shelfAt_L2 (nI fr) (nI n) pl post (fun _ => post (-1)) m (nI i)) (fun i _ => i ≤ k0) n 0 () (Nat.zero_le _) (Nat.zero_le _) ?_ ?_
  · intro m s hI
    omega
  · intro m i s hi hI hr
    refine ⟨fun c => absurd c (nI_ge hi (by omega)), fun _ => ⟨vp_in_nI (show i < 24 by omega) (by decide), fun c => ?_, fun c => ?_⟩⟩
    · rw [nI_clamp (by omega)] at c
      rw [nI_1]
      refine hr () ?_
      by_cases e : i = k0
      · subst e; exact absurd hp c
      · omega
    · rw [nI_clamp (by omega)] at c
      rw [inj i hi c]
      exact h
theorem op_pick {x1 x2 fe : Int32} {n fr k0 : Nat} {pl sa bl f g d : Nat → Int32} {out : Nat → Int64} {V1 V2 : Prop} {REC : Int32 → (Nat → Int32) → (Nat → Int32) → (Nat → Int64) → Int32 → Int32 → (Nat → Int32) → (Nat → Int32) → Prop} (v1 : V1) (v2 : V2) (hn : n ≤ 24)
    (hk : n ≠ 0 → fr < n ∧ k0 < n ∧ sa fr = nI k0 ∧ pl k0 = nI fr ∧ ∀ j, j < n → pl j = nI fr → j = k0)
    (h0 : ∀ o th, REC fe f g o th fe f g) (h1 : ∀ j, j < 20 → f j = nI k0 → k0 < n → ∀ o th, REC (fe + 1) (upd f j (-1)) (upd g j (g j + 64)) o th (fe + 1) (upd f j (-1)) (upd g j (g j + 64))) :
    V1 ∧ (V2 ∧ p_L_pick x1 x2 (nI n) (nI fr) fe sa bl f g d out (fun r e' f' g' o => V1 ∧ (V2 ∧ p_M_pick x1 x2 (nI n) (nI fr) fe pl bl f g d (fun b th e'' f'' g'' => chkB r o b th (REC e' f' g' o th e'' f'' g''))))) := by
  refine ⟨v1, v2, ?_⟩
  show p_C_pick x1 x2 (nI n) (nI fr) fe sa bl f g d _ _
  by_cases hz : n = 0
  · subst hz
    exact ⟨fun c => absurd nI_0 c, fun _ => Or.inl ⟨rfl, v1, v2, fun c => absurd nI_0 c, fun _ => chkB_thr (by decide) (h0 _ _)⟩⟩
  · have hnz : ¬ nI n = 0 := nI_ne0 (by omega) (by omega)
    obtain ⟨hfr, hk0, hsa, hpl, inj⟩ := hk hz
    refine ⟨fun _ => ?_, fun c => absurd c hnz⟩
    rcases rng x1 (show 20 < 2 ^ 31 by decide) with hx | ⟨j, hj, rfl⟩
    · exact e_needUnit_o hx (Or.inr (Or.inl ⟨rfl, v1, v2, fun _ => e_none_o (n := 20) hx ⟨fun _ => chkB_thr (by decide) (h0 _ _), fun c => absurd c one_ne⟩, fun c => absurd c hnz⟩))
    · refine e_needUnit_i hj ?_
      rcases rng x2 (show 2 < 2 ^ 31 by decide) with hy | ⟨t, ht, rfl⟩
      · exact e_needStation_o hy (Or.inr (Or.inl ⟨rfl, v1, v2, fun _ => e_none_i (n := 20) hj (by decide) ⟨fun c => absurd rfl c, fun _ => e_none_o (n := 2) hy ⟨fun c => absurd c one_ne, fun _ => chkB_thr (by decide) (h0 _ _)⟩⟩, fun c => absurd c hnz⟩))
      · have cj : (nI j).toNatClampNeg = j := nI_clamp (by omega)
        have ct : (nI t).toNatClampNeg = t := nI_clamp (by omega)
        have cf : (nI fr).toNatClampNeg = fr := nI_clamp (by omega)
        have c0 : (nI k0).toNatClampNeg = k0 := nI_clamp (by omega)
        have vj := vp_in_nI (n := j) (N := 20) (by omega) (by decide)
        have vt := vp_in_nI (n := t) (N := 2) (by omega) (by decide)
        have v0 := vp_in_nI (n := k0) (N := 24) (by omega) (by decide)
        have M : ∀ {post : Int32 → Int32 → Int32 → (Nat → Int32) → (Nat → Int32) → Prop}, ((d t = 0 → post 0 3 fe f g) ∧ (¬ d t = 0 → ((bl k0 = 0 → ((f j = nI k0 → post 1 0 (fe + 1) (upd f j (-1)) (upd g j (g j + 64))) ∧ (¬ f j = nI k0 → post 0 0 fe f g))) ∧ (¬ bl k0 = 0 → post 0 3 fe f g)))) → p_M_pick (nI j) (nI t) (nI n) (nI fr) fe pl bl f g d post := by
          intro post h
          refine ⟨fun _ => e_none_i (n := 20) hj (by decide) ⟨fun c => absurd rfl c, fun _ => e_none_i (n := 2) ht (by decide) ⟨fun _ => ⟨vt, ?_, ?_⟩, fun c => absurd rfl c⟩⟩, fun c => absurd c hnz⟩
          · rw [ct]; exact h.1
          · rw [ct]
            intro q
            refine e_shelfAtM hn hk0 hpl inj ⟨v0, ?_, ?_⟩
            · rw [c0]
              intro q2
              refine ⟨vj, e_shelfAtM hn hk0 hpl inj ⟨?_, ?_⟩⟩
              · rw [cj]
                intro q3
                exact ⟨vj, vj, vj, ((h.2 q).1 q2).1 q3⟩
              · rw [cj]
                exact ((h.2 q).1 q2).2
            · rw [c0]
              exact (h.2 q).2
        refine e_needStation_i ht ⟨vp_in_nI (show fr < 24 by omega) (by decide), vt, ?_, ?_⟩
        · rw [ct, cf, hsa]
          intro q
          refine ⟨v0, ?_, ?_⟩
          · rw [c0]
            intro q2
            refine ⟨vj, ?_, ?_⟩
            · rw [cj]
              intro q3
              refine ⟨vj, vj, vj, fun c => absurd c one_ne, fun _ => ⟨v01, v1, v2, M ⟨fun c => absurd c q, fun _ => ⟨fun _ => ⟨fun _ => chkB_1 one_ne (h1 j hj q3 hk0 _ _), fun c => absurd q3 c⟩, fun c => absurd q2 c⟩⟩⟩⟩
            · rw [cj]
              intro q3
              exact ⟨fun _ => ⟨v01, v1, v2, M ⟨fun c => absurd c q, fun _ => ⟨fun _ => ⟨fun c => absurd c q3, fun _ => chkB_0 (h0 _ _)⟩, fun c => absurd q2 c⟩⟩⟩, fun c => absurd rfl c⟩
          · rw [c0]
            intro q2
            exact Or.inr (Or.inr ⟨rfl, v1, v2, M ⟨fun c => absurd c q, fun _ => ⟨fun c => absurd c q2, fun _ => chkB_thr (by decide) (h0 _ _)⟩⟩⟩)
        · rw [ct]
          intro q
          exact Or.inr (Or.inr ⟨rfl, v1, v2, M ⟨fun _ => chkB_thr (by decide) (h0 _ _), fun c => absurd q c⟩⟩)
