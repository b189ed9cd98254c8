/-! PURE: one round of the law, all rounds, the start -/
def IVR (n k : Nat) (REC : Int32 → Int32 → Int32 → Int32 → Int32 → (Nat → Int32) → (Nat → Int32) → (Nat → Int32) → (Nat → Int32) → (Nat → Int32) → (Nat → Int32) → (Nat → Int32) → Int32 → Int32 → Int32 → (Nat → Int32) → (Nat → Int32) → (Nat → Int32) → (Nat → Int32) → (Nat → Int32) → Int32 → Int32 → Int32 → Int32 → Int32 → Int32 → Int32 → Int32 → (Nat → Int32) → (Nat → Int32) → (Nat → Int32) → (Nat → Int32) → (Nat → Int32) → (Nat → Int32) → (Nat → Int32) → (Nat → Int32) → (Nat → Int32) → (Nat → Int64) → Prop) : Prop := ∀ (ll fr st : Nat) (tu fe few ex th msh : Int32) (pl sa bl f c d list sh sp tk tr be mplan mshelf mtrial : Nat → Int32) (out : Nat → Int64), ll ≤ 8 → IR n fr → IA n pl sa → IB bl → IF n f → IC (k + 1) c → ID d → IL ll list → IP st sh be mplan → isB ex → REC (nI (1 + 3 * k) + 3) (nI ll) (nI fr) tu fe pl sa bl f c d list (nI st) few ex sh sp tk tr be th (nI fr) tu fe (nI ll) (nI st) ex msh pl bl f c d list mplan mshelf mtrial out
theorem IC_s {k : Nat} {c : Nat → Int32} (h : IC k c) : IC (k + 1) c := fun u hu => by
  obtain ⟨v, hv, e⟩ := h u hu
  exact ⟨v, by omega, e⟩
theorem IC_nng {k : Nat} {c : Nat → Int32} (hk : k ≤ 600) (h : IC k c) : nng c := fun u hu => by
  obtain ⟨v, hv, e⟩ := h u hu
  exact ⟨v, by omega, e⟩
theorem IA_p {n : Nat} {pl sa : Nat → Int32} (h : IA n pl sa) : ∀ j, j < n → ∃ p, p < n ∧ pl j = nI p := fun j hj => by
  obtain ⟨p, hp, e, _⟩ := h.1 j hj
  exact ⟨p, hp, e⟩
theorem IA_at {n fr : Nat} {pl sa : Nat → Int32} (hn : n ≤ 24) (h : IA n pl sa) (hfr : fr < n) : ∃ k0, k0 < n ∧ sa fr = nI k0 ∧ pl k0 = nI fr ∧ ∀ j, j < n → pl j = nI fr → j = k0 := by
  obtain ⟨k0, hk, e1, e2⟩ := h.2 fr hfr
  refine ⟨k0, hk, e1, e2, fun j hj e => ?_⟩
  obtain ⟨p, hp, e3, e4⟩ := h.1 j hj
  have : p = fr := nI_inj (by omega) (by omega) (e3.symm.trans e)
  subst this
  exact nI_inj (by omega) (by omega) (e4.symm.trans e1)
theorem IA_mv {n j k pj pk : Nat} {pl sa : Nat → Int32} (hn : n ≤ 24) (h : IA n pl sa) (hj : j < n) (hk : k < n) (hjk : j ≠ k) (hpj : pj < n) (hpk : pk < n) (ej : pl j = nI pj) (ek : pl k = nI pk) : IA n (upd (upd pl j (nI pk)) k (nI pj)) (upd (upd sa pk (nI j)) pj (nI k)) := by
  obtain ⟨qj, hqj, f1, f2⟩ := h.1 j hj
  have e1 : qj = pj := nI_inj (by omega) (by omega) (f1.symm.trans ej)
  subst e1
  obtain ⟨qk, hqk, g1, g2⟩ := h.1 k hk
  have e2 : qk = pk := nI_inj (by omega) (by omega) (g1.symm.trans ek)
  subst e2
  have hpp : qj ≠ qk := fun e => by
    subst e
    exact hjk (nI_inj (by omega) (by omega) (f2.symm.trans g2))
  refine ⟨fun a ha => ?_, fun p hp => ?_⟩
  · by_cases h1 : a = k
    · subst h1
      exact ⟨qj, hqj, pk_us, pk_us⟩
    · by_cases h2 : a = j
      · subst h2
        exact ⟨qk, hqk, by rw [pk_un h1, pk_us], by rw [pk_un (fun e => hpp e.symm), pk_us]⟩
      · obtain ⟨q, hq, r1, r2⟩ := h.1 a ha
        refine ⟨q, hq, by rw [pk_un h1, pk_un h2]; exact r1, ?_⟩
        have d1 : q ≠ qj := fun e => by
          subst e
          exact h2 (nI_inj (by omega) (by omega) (r2.symm.trans f2))
        have d2 : q ≠ qk := fun e => by
          subst e
          exact h1 (nI_inj (by omega) (by omega) (r2.symm.trans g2))
        rw [pk_un d1, pk_un d2]
        exact r2
  · by_cases h1 : p = qj
    · subst h1
      exact ⟨k, hk, pk_us, pk_us⟩
    · by_cases h2 : p = qk
      · subst h2
        exact ⟨j, hj, by rw [pk_un h1, pk_us], by rw [pk_un hjk, pk_us]⟩
      · obtain ⟨a, ha, r1, r2⟩ := h.2 p hp
        refine ⟨a, ha, by rw [pk_un h1, pk_un h2]; exact r1, ?_⟩
        have d1 : a ≠ k := fun e => by
          subst e
          exact h2 (nI_inj (by omega) (by omega) (r2.symm.trans g1))
        have d2 : a ≠ j := fun e => by
          subst e
          exact h1 (nI_inj (by omega) (by omega) (r2.symm.trans f1))
        rw [pk_un d1, pk_un d2]
        exact r2
theorem IF_put {n k j : Nat} {f : Nat → Int32} (hn : n ≤ 24) (h : IF n f) (hk : k < n) (hj : j < 20) (e : f j = -1) (hc : cntN f (nI k) 20 < 4) : IF n (upd f j (nI k)) := by
  refine ⟨fun u hu => ?_, fun q hq => ?_⟩
  · by_cases h1 : u = j
    · subst h1
      exact Or.inr ⟨k, hk, pk_us⟩
    · rw [pk_un h1]
      exact h.1 u hu
  · by_cases h1 : q = k
    · subst h1
      rw [cntN_put (by rw [e]; exact fun z => nI_ne_m1 (by omega) z.symm) hj]
      omega
    · rw [cntN_other (by rw [e]; exact fun z => nI_ne_m1 (by omega) z.symm) (fun z => h1 (nI_inj (by omega) (by omega) z.symm))]
      exact h.2 q hq
theorem IF_pick {n j : Nat} {f : Nat → Int32} (hn : n ≤ 24) (h : IF n f) : IF n (upd f j (-1)) := by
  refine ⟨fun u hu => ?_, fun q hq => ?_⟩
  · by_cases h1 : u = j
    · subst h1
      exact Or.inl pk_us
    · rw [pk_un h1]
      exact h.1 u hu
  · exact Nat.le_trans (cntN_drop (fun z => nI_ne_m1 (by omega) z.symm) 20) (h.2 q hq)
theorem IC_pick {k j : Nat} {c : Nat → Int32} (h : IC k c) (hj : j < 20) : IC (k + 1) (upd c j (c j + 64)) := fun u hu => by
  by_cases h1 : u = j
  · subst h1
    obtain ⟨v, hv, e⟩ := h u hu
    refine ⟨v + 64, by omega, ?_⟩
    rw [pk_us, e]
    exact nI_add v 64
  · rw [pk_un h1]
    obtain ⟨v, hv, e⟩ := h u hu
    exact ⟨v, by omega, e⟩
theorem IC_hv {k m : Nat} {c : Nat → Int32} (hk : k ≤ 600) (h : IC k c) : IC (k + 1) (hv c m) := fun u hu => by
  obtain ⟨v, hv0, e⟩ := h u hu
  refine ⟨v / 2 ^ m, Nat.le_trans (Nat.div_le_self _ _) (by omega), ?_⟩
  simp only [hv]
  rw [if_pos hu, e, nI_clamp (by omega)]
theorem IL_want {ll j : Nat} {list : Nat → Int32} (h : IL ll list) (hj : j < 20) : IL (ll + 1) (upd list ll (nI j)) := fun i hi => by
  by_cases h1 : i = ll
  · subst h1
    exact ⟨j, hj, pk_us⟩
  · rw [pk_un h1]
    exact h i (by omega)
theorem isB_nar2 (z : Int32) (hz : z = 0 ∨ z = 1) : isB (vp_nar .boolean z) := by
  rcases hz with rfl | rfl
  · exact Or.inl rfl
  · exact Or.inr rfl
theorem ID_up {j : Nat} {d : Nat → Int32} {z : Int32} (hz : z = 0 ∨ z = 1) (h : ID d) : ID (upd d j (vp_nar .boolean z)) := fun u hu => by
  by_cases h1 : u = j
  · subst h1
    rw [pk_us]
    exact isB_nar2 z hz
  · rw [pk_un h1]
    exact h u hu
theorem IB_up {j : Nat} {d : Nat → Int32} {z : Int32} (hz : z = 0 ∨ z = 1) (h : IB d) : IB (upd d j (vp_nar .boolean z)) := fun u hu => by
  by_cases h1 : u = j
  · subst h1
    rw [pk_us]
    exact isB_nar2 z hz
  · rw [pk_un h1]
    exact h u hu
theorem IF_nn {n : Nat} {f : Nat → Int32} (hn : n ≤ 24) (h : IF n f) : ∀ u, u < 20 → f u = -1 ∨ ¬ f u < 0 := fun u hu => by
  rcases h.1 u hu with e | ⟨k, hk, e⟩
  · exact Or.inl e
  · exact Or.inr (by rw [e]; exact nI_pos (by omega))
theorem IR_o {n fr : Nat} (h : IR n fr) : n = 0 ∨ fr < n := by
  rcases h with ⟨a, _⟩ | a
  · exact Or.inl a
  · exact Or.inr a
set_option maxHeartbeats 4000000 in
theorem law_body {n k L : Nat} {xs : Nat → Int32} {K REC : Int32 → Int32 → Int32 → Int32 → Int32 → (Nat → Int32) → (Nat → Int32) → (Nat → Int32) → (Nat → Int32) → (Nat → Int32) → (Nat → Int32) → (Nat → Int32) → Int32 → Int32 → Int32 → (Nat → Int32) → (Nat → Int32) → (Nat → Int32) → (Nat → Int32) → (Nat → Int32) → Int32 → Int32 → Int32 → Int32 → Int32 → Int32 → Int32 → Int32 → (Nat → Int32) → (Nat → Int32) → (Nat → Int32) → (Nat → Int32) → (Nat → Int32) → (Nat → Int32) → (Nat → Int32) → (Nat → Int32) → (Nat → Int32) → (Nat → Int64) → Prop} {ll fr st : Nat} {tu fe few ex th msh : Int32} {pl sa bl f c d list sh sp tk tr be mplan mshelf mtrial : Nat → Int32} {out : Nat → Int64} (hn : n ≤ 24) (hk : 3 * k + 4 ≤ L) (hL : L ≤ 1537) (hl : ll ≤ 8) (hr : IR n fr) (ha : IA n pl sa) (hb : IB bl) (hf : IF n f) (hc : IC k c) (hd : ID d) (hli : IL ll list) (hp : IP st sh be mplan) (he : isB ex) (hR : IVR n k REC) :
    p_L_law_L33_B (nI n) (nI n) (nI n) L xs K REC (nI (1 + 3 * k)) (nI ll) (nI fr) tu fe pl sa bl f c d list (nI st) few ex sh sp tk tr be th (nI fr) tu fe (nI ll) (nI st) ex msh pl bl f c d list mplan mshelf mtrial out := by
  have hc1 := IC_s hc
  have v0 : vp_in (nI (1 + 3 * k)) L := vp_in_nI (by omega) (by omega)
  have v1 : vp_in (nI (1 + 3 * k) + (1 : Int32)) L := by rw [nI_1]; exact vp_in_nI (by omega) (by omega)
  have v2 : vp_in (nI (1 + 3 * k) + (2 : Int32)) L := by
    show vp_in (nI (1 + 3 * k) + nI 2) L
    rw [nI_add]
    exact vp_in_nI (by omega) (by omega)
  have hlt : ¬ (nI L - (3 : Int32)) < nI (1 + 3 * k) := by
    show ¬ (nI L - nI 3) < nI (1 + 3 * k)
    rw [pk_sub (by omega)]
    exact nI_nlt (by omega) (by omega)
  refine ⟨fun c => absurd c hlt, fun _ => ⟨v0, ⟨fun _ => ?c0, fun _ => ⟨fun _ => ?c1, fun _ => ⟨fun _ => ?c2, fun _ => ⟨fun _ => ?c3, fun _ => ⟨fun _ => ?c4, fun _ => ⟨fun _ => ?c5, fun _ => ⟨fun _ => ?c6, fun _ => ⟨fun _ => ?c7, fun _ => ⟨fun _ => ?c8, fun _ => ⟨fun _ => ?c9, fun _ => ⟨fun _ => ?c10, fun _ => ⟨fun _ => ?c11, fun _ => ⟨fun _ => ?c12, fun _ => ⟨fun _ => ?c13, fun _ => ⟨fun _ => ?c14, fun _ => ⟨fun _ => ?c15, fun _ => ⟨fun _ => ?c16, fun _ => ?c17⟩⟩⟩⟩⟩⟩⟩⟩⟩⟩⟩⟩⟩⟩⟩⟩⟩⟩⟩
  case c0 =>
    exact op_put (REC := fun f' o th f'' => REC (nI (1 + 3 * k) + 3) (nI ll) (nI fr) tu fe pl sa bl f' c d list (nI st) few ex sh sp tk tr be th (nI fr) tu fe (nI ll) (nI st) ex msh pl bl f'' c d list mplan mshelf mtrial o) v1 v2 hn hf.1 hf.2 (fun _ _ => (hR _ _ _ _ _ _ _ _ _ _ _ _ _ _ _ _ _ _ _ _ _ _ _ _ _ hl hr ha hb hf hc1 hd hli hp he)) (fun q j hq hj e hc4 _ _ => (hR _ _ _ _ _ _ _ _ _ _ _ _ _ _ _ _ _ _ _ _ _ _ _ _ _ hl hr ha hb (IF_put hn hf hq hj e hc4) hc1 hd hli hp he))
  case c1 =>
    exact op_turn (REC := fun a b o th a2 b2 => REC (nI (1 + 3 * k) + 3) (nI ll) a b fe pl sa bl f c d list (nI st) few ex sh sp tk tr be th a2 b2 fe (nI ll) (nI st) ex msh pl bl f c d list mplan mshelf mtrial o) v1 hn (IR_o hr) (fun _ _ => (hR _ _ _ _ _ _ _ _ _ _ _ _ _ _ _ _ _ _ _ _ _ _ _ _ _ hl hr ha hb hf hc1 hd hli hp he)) (fun j hj _ _ => (hR _ _ _ _ _ _ _ _ _ _ _ _ _ _ _ _ _ _ _ _ _ _ _ _ _ hl (Or.inr hj) ha hb hf hc1 hd hli hp he))
  case c2 =>
    refine op_want (REC := fun a b o th a2 b2 => REC (nI (1 + 3 * k) + 3) a (nI fr) tu fe pl sa bl f c d b (nI st) few ex sh sp tk tr be th (nI fr) tu fe a2 (nI st) ex msh pl bl f c d b2 mplan mshelf mtrial o) v1 hn hl hf.1 (fun _ _ => (hR _ _ _ _ _ _ _ _ _ _ _ _ _ _ _ _ _ _ _ _ _ _ _ _ _ hl hr ha hb hf hc1 hd hli hp he)) (fun j hj h8 o th => ?_)
    rw [nI_1]
    exact (hR _ _ _ _ _ _ _ _ _ _ _ _ _ _ _ _ _ _ _ _ _ _ _ _ _ (by omega) hr ha hb hf hc1 hd (IL_want hli hj) hp he)
  case c3 =>
    exact op_plan (REC := fun s1 s2 s3 s4 s5 s6 s7 s8 o th t1 t2 t3 t4 t5 t6 => REC (nI (1 + 3 * k) + 3) (nI ll) (nI fr) tu fe pl sa bl f c d list s1 s2 s3 s4 s5 s6 s7 s8 th (nI fr) tu fe (nI ll) t1 t2 t3 pl bl f c d list t4 t5 t6 o) v1 hn hl hr ha hb hf hli (fun _ _ _ _ _ => (hR _ _ _ _ _ _ _ _ _ _ _ _ _ _ _ _ _ _ _ _ _ _ _ _ _ hl hr ha hb hf hc1 hd hli hp he)) (fun _ _ _ _ _ _ _ _ _ _ _ _ _ _ hp2 he2 => (hR _ _ _ _ _ _ _ _ _ _ _ _ _ _ _ _ _ _ _ _ _ _ _ _ _ hl hr ha hb hf hc1 hd hli hp2 he2))
  case c4 =>
    exact op_at (REC := fun th => REC (nI (1 + 3 * k) + 3) (nI ll) (nI fr) tu fe pl sa bl f c d list (nI st) few ex sh sp tk tr be th (nI fr) tu fe (nI ll) (nI st) ex msh pl bl f c d list mplan mshelf mtrial out) v1 hp.1 hp.2 (fun _ => (hR _ _ _ _ _ _ _ _ _ _ _ _ _ _ _ _ _ _ _ _ _ _ _ _ _ hl hr ha hb hf hc1 hd hli hp he))
  case c5 =>
    exact op_exact (REC := fun th => REC (nI (1 + 3 * k) + 3) (nI ll) (nI fr) tu fe pl sa bl f c d list (nI st) few ex sh sp tk tr be th (nI fr) tu fe (nI ll) (nI st) ex msh pl bl f c d list mplan mshelf mtrial out) he (fun _ => (hR _ _ _ _ _ _ _ _ _ _ _ _ _ _ _ _ _ _ _ _ _ _ _ _ _ hl hr ha hb hf hc1 hd hli hp he))
  case c6 =>
    exact op_clear (REC := fun a s e th a2 s2 e2 => REC (nI (1 + 3 * k) + 3) a (nI fr) tu fe pl sa bl f c d list s few e sh sp tk tr be th (nI fr) tu fe a2 s2 e2 msh pl bl f c d list mplan mshelf mtrial out) (hR 0 _ 0 _ _ _ _ _ _ _ _ _ _ _ _ _ _ _ _ _ _ _ _ _ _ (by omega) hr ha hb hf hc1 hd (fun i hi => absurd hi (Nat.not_lt_zero i)) ⟨by omega, fun i hi => absurd hi (Nat.not_lt_zero i)⟩ (Or.inl rfl))
  case c7 =>
    have hk0 : ∃ k0 : Nat, n ≠ 0 → fr < n ∧ k0 < n ∧ sa fr = nI k0 ∧ pl k0 = nI fr ∧ ∀ j, j < n → pl j = nI fr → j = k0 := by
      by_cases hz : n = 0
      · exact ⟨0, fun z => absurd hz z⟩
      · have hfr : fr < n := (IR_o hr).resolve_left hz
        obtain ⟨k0, a1, a2, a3, a4⟩ := IA_at hn ha hfr
        exact ⟨k0, fun _ => ⟨hfr, a1, a2, a3, a4⟩⟩
    obtain ⟨k0, hk0⟩ := hk0
    exact op_pick (REC := fun a b g o th a2 b2 g2 => REC (nI (1 + 3 * k) + 3) (nI ll) (nI fr) tu a pl sa bl b g d list (nI st) few ex sh sp tk tr be th (nI fr) tu a2 (nI ll) (nI st) ex msh pl bl b2 g2 d list mplan mshelf mtrial o) v1 v2 hn hk0 (fun _ _ => (hR _ _ _ _ _ _ _ _ _ _ _ _ _ _ _ _ _ _ _ _ _ _ _ _ _ hl hr ha hb hf hc1 hd hli hp he)) (fun j hj e hq _ _ => (hR _ _ _ _ _ _ _ _ _ _ _ _ _ _ _ _ _ _ _ _ _ _ _ _ _ hl hr ha hb (IF_pick hn hf) (IC_pick hc hj) hd hli hp he))
  case c8 =>
    refine ⟨v1, v2, fun e => ?_, fun e => ?_⟩
    · exact op_door (z := 0) (REC := fun a o th a2 => REC (nI (1 + 3 * k) + 3) (nI ll) (nI fr) tu fe pl sa bl f c a list (nI st) few ex sh sp tk tr be th (nI fr) tu fe (nI ll) (nI st) ex msh pl bl f c a2 list mplan mshelf mtrial o) hd (fun _ _ => (hR _ _ _ _ _ _ _ _ _ _ _ _ _ _ _ _ _ _ _ _ _ _ _ _ _ hl hr ha hb hf hc1 hd hli hp he)) (fun j hj _ _ => (hR _ _ _ _ _ _ _ _ _ _ _ _ _ _ _ _ _ _ _ _ _ _ _ _ _ hl hr ha hb hf hc1 (ID_up (Or.inl rfl) hd) hli hp he)) (fun r d' o M => ⟨v1, v2, ⟨fun _ => M, fun c => absurd e c⟩⟩)
    · exact op_door (z := 1) (REC := fun a o th a2 => REC (nI (1 + 3 * k) + 3) (nI ll) (nI fr) tu fe pl sa bl f c a list (nI st) few ex sh sp tk tr be th (nI fr) tu fe (nI ll) (nI st) ex msh pl bl f c a2 list mplan mshelf mtrial o) hd (fun _ _ => (hR _ _ _ _ _ _ _ _ _ _ _ _ _ _ _ _ _ _ _ _ _ _ _ _ _ hl hr ha hb hf hc1 hd hli hp he)) (fun j hj _ _ => (hR _ _ _ _ _ _ _ _ _ _ _ _ _ _ _ _ _ _ _ _ _ _ _ _ _ hl hr ha hb hf hc1 (ID_up (Or.inr rfl) hd) hli hp he)) (fun r d' o M => ⟨v1, v2, ⟨fun c => absurd c e, fun _ => M⟩⟩)
  case c9 =>
    exact op_move (REC := fun p s o th p2 => REC (nI (1 + 3 * k) + 3) (nI ll) (nI fr) tu fe p s bl f c d list (nI st) few ex sh sp tk tr be th (nI fr) tu fe (nI ll) (nI st) ex msh p2 bl f c d list mplan mshelf mtrial o) v1 v2 hn (IA_p ha) (fun _ _ => (hR _ _ _ _ _ _ _ _ _ _ _ _ _ _ _ _ _ _ _ _ _ _ _ _ _ hl hr ha hb hf hc1 hd hli hp he)) (fun j k2 pj pk hj hk2 hjk hpj hpk ej ek _ _ => (hR _ _ _ _ _ _ _ _ _ _ _ _ _ _ _ _ _ _ _ _ _ _ _ _ _ hl hr (IA_mv hn ha hj hk2 hjk hpj hpk ej ek) hb hf hc1 hd hli hp he))
  case c10 =>
    refine ⟨v1, v2, fun e => ?_, fun e => ?_⟩
    · exact op_blocked (z := 0) (REC := fun a o th a2 => REC (nI (1 + 3 * k) + 3) (nI ll) (nI fr) tu fe pl sa a f c d list (nI st) few ex sh sp tk tr be th (nI fr) tu fe (nI ll) (nI st) ex msh pl a2 f c d list mplan mshelf mtrial o) hn hb (fun _ _ => (hR _ _ _ _ _ _ _ _ _ _ _ _ _ _ _ _ _ _ _ _ _ _ _ _ _ hl hr ha hb hf hc1 hd hli hp he)) (fun j hj _ _ => (hR _ _ _ _ _ _ _ _ _ _ _ _ _ _ _ _ _ _ _ _ _ _ _ _ _ hl hr ha (IB_up (Or.inl rfl) hb) hf hc1 hd hli hp he)) (fun r d' o M => ⟨v1, v2, ⟨fun _ => M, fun c => absurd e c⟩⟩)
    · exact op_blocked (z := 1) (REC := fun a o th a2 => REC (nI (1 + 3 * k) + 3) (nI ll) (nI fr) tu fe pl sa a f c d list (nI st) few ex sh sp tk tr be th (nI fr) tu fe (nI ll) (nI st) ex msh pl a2 f c d list mplan mshelf mtrial o) hn hb (fun _ _ => (hR _ _ _ _ _ _ _ _ _ _ _ _ _ _ _ _ _ _ _ _ _ _ _ _ _ hl hr ha hb hf hc1 hd hli hp he)) (fun j hj _ _ => (hR _ _ _ _ _ _ _ _ _ _ _ _ _ _ _ _ _ _ _ _ _ _ _ _ _ hl hr ha (IB_up (Or.inr rfl) hb) hf hc1 hd hli hp he)) (fun r d' o M => ⟨v1, v2, ⟨fun c => absurd c e, fun _ => M⟩⟩)
  case c11 =>
    exact op_days (REC := fun a th a2 => REC (nI (1 + 3 * k) + 3) (nI ll) (nI fr) tu fe pl sa bl f a d list (nI st) few ex sh sp tk tr be th (nI fr) tu fe (nI ll) (nI st) ex msh pl bl f a2 d list mplan mshelf mtrial out) v1 (IC_nng (by omega) hc) (fun _ => (hR _ _ _ _ _ _ _ _ _ _ _ _ _ _ _ _ _ _ _ _ _ _ _ _ _ hl hr ha hb hf hc1 hd hli hp he)) (fun _ _ _ => (hR _ _ _ _ _ _ _ _ _ _ _ _ _ _ _ _ _ _ _ _ _ _ _ _ _ hl hr ha hb hf (IC_hv (by omega) hc) hd hli hp he))
  case c12 =>
    exact op_learned (REC := fun o th => REC (nI (1 + 3 * k) + 3) (nI ll) (nI fr) tu fe pl sa bl f c d list (nI st) few ex sh sp tk tr be th (nI fr) tu fe (nI ll) (nI st) ex msh pl bl f c d list mplan mshelf mtrial o) v1 (fun _ _ => (hR _ _ _ _ _ _ _ _ _ _ _ _ _ _ _ _ _ _ _ _ _ _ _ _ _ hl hr ha hb hf hc1 hd hli hp he))
  case c13 =>
    exact op_rest (REC := fun th => REC (nI (1 + 3 * k) + 3) (nI ll) (nI fr) tu fe pl sa bl f c d list (nI st) few ex sh sp tk tr be th (nI fr) tu fe (nI ll) (nI st) ex msh pl bl f c d list mplan mshelf mtrial out) hn (fun _ => (hR _ _ _ _ _ _ _ _ _ _ _ _ _ _ _ _ _ _ _ _ _ _ _ _ _ hl hr ha hb hf hc1 hd hli hp he))
  case c14 =>
    exact op_shelf (REC := fun o th => REC (nI (1 + 3 * k) + 3) (nI ll) (nI fr) tu fe pl sa bl f c d list (nI st) few ex sh sp tk tr be th (nI fr) tu fe (nI ll) (nI st) ex msh pl bl f c d list mplan mshelf mtrial o) v1 v2 hn (IR_o hr) (IA_p ha) (fun _ _ => (hR _ _ _ _ _ _ _ _ _ _ _ _ _ _ _ _ _ _ _ _ _ _ _ _ _ hl hr ha hb hf hc1 hd hli hp he))
  case c15 =>
    exact op_unit (REC := fun o th => REC (nI (1 + 3 * k) + 3) (nI ll) (nI fr) tu fe pl sa bl f c d list (nI st) few ex sh sp tk tr be th (nI fr) tu fe (nI ll) (nI st) ex msh pl bl f c d list mplan mshelf mtrial o) v1 (fun _ _ => (hR _ _ _ _ _ _ _ _ _ _ _ _ _ _ _ _ _ _ _ _ _ _ _ _ _ hl hr ha hb hf hc1 hd hli hp he))
  case c16 =>
    exact op_count (REC := fun th => REC (nI (1 + 3 * k) + 3) (nI ll) (nI fr) tu fe pl sa bl f c d list (nI st) few ex sh sp tk tr be th (nI fr) tu fe (nI ll) (nI st) ex msh pl bl f c d list mplan mshelf mtrial out) v1 (IF_nn hn hf) (fun _ => (hR _ _ _ _ _ _ _ _ _ _ _ _ _ _ _ _ _ _ _ _ _ _ _ _ _ hl hr ha hb hf hc1 hd hli hp he))
  case c17 =>
    exact (hR _ _ _ _ _ _ _ _ _ _ _ _ _ _ _ _ _ _ _ _ _ _ _ _ _ hl hr ha hb hf hc1 hd hli hp he)
theorem law_exit {L k : Nat} (hL : L ≤ 1537) (hk : k ≤ 600) (h : L < 3 * k + 4) : (nI L - (3 : Int32)) < nI (1 + 3 * k) := by
  show (nI L - nI 3) < nI (1 + 3 * k)
  by_cases h3 : 3 ≤ L
  · rw [pk_sub h3]
    exact nI_lt (by omega) (by omega)
  · exact Int32.lt_of_lt_of_le (pk_sneg (by decide) (by omega)) (nI_pos' (by omega))
theorem law_loop {n L : Nat} {xs : Nat → Int32} (hn : n ≤ 24) (hL : L ≤ 1537) : ∀ (r k : Nat) (ll fr st : Nat) (tu fe few ex th msh : Int32) (pl sa bl f c d list sh sp tk tr be mplan mshelf mtrial : Nat → Int32) (out : Nat → Int64), L < 3 * (k + r) + 4 → k ≤ 600 → ll ≤ 8 → IR n fr → IA n pl sa → IB bl → IF n f → IC k c → ID d → IL ll list → IP st sh be mplan → isB ex → p_L_law_L33 (nI n) (nI n) (nI n) L xs (fun _ _ _ _ _ _ _ _ _ _ _ _ _ _ _ _ _ _ _ _ _ _ _ _ _ _ _ _ _ _ _ _ _ _ _ _ _ _ => True) (r + 1) (nI (1 + 3 * k)) (nI ll) (nI fr) tu fe pl sa bl f c d list (nI st) few ex sh sp tk tr be th (nI fr) tu fe (nI ll) (nI st) ex msh pl bl f c d list mplan mshelf mtrial out := by
  intro r
  induction r with
  | zero =>
    intro k ll fr st tu fe few ex th msh pl sa bl f c d list sh sp tk tr be mplan mshelf mtrial out hk hk6 hl hr ha hb hf hc hd hli hp he
    refine ⟨fun _ => trivial, fun c => absurd ?_ c⟩
    exact law_exit hL hk6 (by omega)
  | succ r ih =>
    intro k ll fr st tu fe few ex th msh pl sa bl f c d list sh sp tk tr be mplan mshelf mtrial out hk hk6 hl hr ha hb hf hc hd hli hp he
    by_cases h4 : 3 * k + 4 ≤ L
    · refine law_body hn h4 hL hl hr ha hb hf hc hd hli hp he ?_
      intro ll fr st tu fe few ex th msh pl sa bl f c d list sh sp tk tr be mplan mshelf mtrial out hl hr ha hb hf hc hd hli hp he
      have e3 : nI (1 + 3 * k) + 3 = nI (1 + 3 * (k + 1)) := by
        show nI (1 + 3 * k) + nI 3 = _
        rw [nI_add]
        exact congrArg nI (by omega)
      rw [e3]
      exact ih (k + 1) ll fr st tu fe few ex th msh pl sa bl f c d list sh sp tk tr be mplan mshelf mtrial out (by omega) (by omega) hl hr ha hb hf hc hd hli hp he
    · refine ⟨fun _ => trivial, fun c => absurd ?_ c⟩
      exact law_exit hL hk6 (by omega)
-- the start
def idI (i : Nat) : Nat → Int32 := fun u => if u < i then nI u else 0
def m1I (i : Nat) : Nat → Int32 := fun u => if u < i then -1 else 0
theorem idI_up {i : Nat} : upd (idI i) i (nI i) = idI (i + 1) := by
  funext u
  by_cases e : u = i
  · subst e
    rw [pk_us]
    simp only [idI]
    rw [if_pos (by omega)]
  · rw [pk_un e]
    simp only [idI]
    by_cases h : u < i
    · rw [if_pos h, if_pos (by omega)]
    · rw [if_neg h, if_neg (by omega)]
theorem m1I_up {i : Nat} : upd (m1I i) i (-1) = m1I (i + 1) := by
  funext u
  by_cases e : u = i
  · subst e
    rw [pk_us]
    simp only [m1I]
    rw [if_pos (by omega)]
  · rw [pk_un e]
    simp only [m1I]
    by_cases h : u < i
    · rw [if_pos h, if_pos (by omega)]
    · rw [if_neg h, if_neg (by omega)]
theorem e_C90 {K : Int32 → (Nat → Int32) → (Nat → Int32) → Prop} (h : ∀ x, K x (idI 24) (idI 24)) : ∃ n, p_C_init_L90 K n (0 : Int32) (fun _ => 0) (fun _ => 0) := by
  refine pk_loop (fun n i (s : Nat → Int32) => p_C_init_L90 K n (nI i) s s) (fun i s => s = idI i) 24 0 (fun _ => 0) (by decide) (by funext u; simp [idI]) ?_ ?_
  · intro n s hI
    subst hI
    exact ⟨fun _ => h _, fun c => absurd (nI_le (Nat.le_refl 24) (by decide)) c⟩
  · intro n i s hi hI hr
    subst hI
    refine ⟨fun c => absurd c (nI_ge hi (by decide)), fun _ => ⟨vp_in_nI hi (by decide), vp_in_nI hi (by decide), ?_⟩⟩
    rw [nI_clamp (by omega), nI_1]
    exact hr _ idI_up
theorem e_C118 {K : Int32 → (Nat → Int32) → Prop} (h : ∀ x, K x (m1I 20)) : ∃ n, p_C_init_L118 K n (0 : Int32) (fun _ => 0) := by
  refine pk_loop (fun n i (s : Nat → Int32) => p_C_init_L118 K n (nI i) s) (fun i s => s = m1I i) 20 0 (fun _ => 0) (by decide) (by funext u; simp [m1I]) ?_ ?_
  · intro n s hI
    subst hI
    exact ⟨fun _ => h _, fun c => absurd (nI_le (Nat.le_refl 20) (by decide)) c⟩
  · intro n i s hi hI hr
    subst hI
    refine ⟨fun c => absurd c (nI_ge hi (by decide)), fun _ => ⟨vp_in_nI hi (by decide), ?_⟩⟩
    rw [nI_clamp (by omega), nI_1]
    exact hr _ m1I_up
theorem e_M141 {K : Int32 → (Nat → Int32) → Prop} (h : ∀ x, K x (idI 24)) : ∃ n, p_M_init_L141 K n (0 : Int32) (fun _ => 0) := by
  refine pk_loop (fun n i (s : Nat → Int32) => p_M_init_L141 K n (nI i) s) (fun i s => s = idI i) 24 0 (fun _ => 0) (by decide) (by funext u; simp [idI]) ?_ ?_
  · intro n s hI
    subst hI
    exact ⟨fun _ => h _, fun c => absurd (nI_le (Nat.le_refl 24) (by decide)) c⟩
  · intro n i s hi hI hr
    subst hI
    refine ⟨fun c => absurd c (nI_ge hi (by decide)), fun _ => ⟨vp_in_nI hi (by decide), ?_⟩⟩
    rw [nI_clamp (by omega), nI_1]
    exact hr _ idI_up
theorem e_M162 {K : Int32 → (Nat → Int32) → Prop} (h : ∀ x, K x (m1I 20)) : ∃ n, p_M_init_L162 K n (0 : Int32) (fun _ => 0) := by
  refine pk_loop (fun n i (s : Nat → Int32) => p_M_init_L162 K n (nI i) s) (fun i s => s = m1I i) 20 0 (fun _ => 0) (by decide) (by funext u; simp [m1I]) ?_ ?_
  · intro n s hI
    subst hI
    exact ⟨fun _ => h _, fun c => absurd (nI_le (Nat.le_refl 20) (by decide)) c⟩
  · intro n i s hi hI hr
    subst hI
    refine ⟨fun c => absurd c (nI_ge hi (by decide)), fun _ => ⟨vp_in_nI hi (by decide), ?_⟩⟩
    rw [nI_clamp (by omega), nI_1]
    exact hr _ m1I_up
/-- how many places: both sides -/
theorem places_e (x : Int32) : ∃ n : Nat, n ≤ 24 ∧ (if (0 : Int32) < (if x < (24 : Int32) then x else (24 : Int32)) then (if x < (24 : Int32) then x else (24 : Int32)) else (0 : Int32)) = nI n ∧ ((0 ≤ x → ((x ≤ (24 : Int32) → x = nI n) ∧ (¬ x ≤ (24 : Int32) → (24 : Int32) = nI n))) ∧ (¬ 0 ≤ x → (0 : Int32) = nI n)) := by
  rcases pk_ix x (show 25 < 2 ^ 31 by decide) with h | h | ⟨j, hj, rfl⟩
  · refine ⟨0, by decide, ?_, ⟨fun c => absurd h (Int32.not_lt.mpr c), fun _ => rfl⟩⟩
    have h24 : x < 24 := Int32.lt_of_lt_of_le h (by decide)
    rw [if_pos h24, if_neg (fun c => Int32.lt_asymm h c)]
    rfl
  · have h25 : (24 : Int32) < x := Int32.lt_of_lt_of_le (by decide : (24 : Int32) < nI 25) h
    refine ⟨24, by decide, ?_, ⟨fun _ => ⟨fun c => absurd h25 (Int32.not_lt.mpr c), fun _ => rfl⟩, fun c => absurd (Int32.le_of_lt (Int32.lt_trans (by decide : (0 : Int32) < 24) h25)) c⟩⟩
    rw [if_neg (fun c => Int32.lt_asymm h25 c), if_pos (by decide)]
    rfl
  · refine ⟨j, by omega, ?_, ⟨fun _ => ⟨fun _ => rfl, fun c => absurd (nI_le (b := 24) (by omega) (by decide)) c⟩, fun c => absurd (nI_pos' (by omega)) c⟩⟩
    by_cases h24 : j < 24
    · have q24 : nI j < (24 : Int32) := nI_lt (b := 24) h24 (by decide)
      rw [if_pos q24]
      by_cases h0 : j = 0
      · subst h0
        decide
      · have q0 : (0 : Int32) < nI j := nI_lt (a := 0) (by omega) (by omega)
        rw [if_pos q0]
    · have : j = 24 := by omega
      subst this
      decide
theorem law_ok {L : Nat} {xs : Nat → Int32} (hL : L ≤ 1537) : p_law L xs := by
  obtain ⟨r0, hr0⟩ : ∃ r0 : Int32, ∀ {post : Int32 → Prop}, post r0 → p_L_cell L xs (0 : Int32) post := by
    by_cases z : L = 0
    · subst z
      exact ⟨0, fun h => ⟨fun _ => h, fun c => absurd (by decide) c⟩⟩
    · exact ⟨xs ((0 : Int32)).toNatClampNeg, fun h => ⟨fun c => absurd c (nI_ge (a := 0) (by omega) (by omega)), fun _ => ⟨vp_in_nI (n := 0) (by omega) (by omega), h⟩⟩⟩
  obtain ⟨n, hn, e1, e2⟩ := places_e r0
  refine hr0 ?_
  show p_P_init _ _
  rw [e1]
  refine e_C90 (fun _ => e_C118 (fun _ => hr0 ?_))
  have fin : ∀ q : Int32, q = nI n → ∃ m, m ≤ 600 ∧ p_L_law_L33 (nI n) (nI n) q L xs (fun _ _ _ _ _ _ _ _ _ _ _ _ _ _ _ _ _ _ _ _ _ _ _ _ _ _ _ _ _ _ _ _ _ _ _ _ _ _ => True) m (1 : Int32) 0 0 0 0 (idI 24) (idI 24) (fun _ => 0) (m1I 20) (fun _ => 0) (fun _ => 0) (fun _ => 0) 0 0 0 (fun _ => 0) (fun _ => 0) (fun _ => 0) (fun _ => 0) (fun _ => 0) 0 0 0 0 0 0 0 0 (idI 24) (fun _ => 0) (m1I 20) (fun _ => 0) (fun _ => 0) (fun _ => 0) (fun _ => 0) (fun _ => 0) (fun _ => 0) (fun _ => 0) := by
    intro q hq
    subst hq
    refine ⟨513, by decide, ?_⟩
    refine law_loop hn hL 512 0 0 0 0 0 0 0 0 0 0 _ _ _ _ _ _ _ _ _ _ _ _ _ _ _ _ (by omega) (by omega) (by omega) ?_ ?_ ?_ ?_ ?_ ?_ ?_ ?_ ?_
    · by_cases z : n = 0
      · exact Or.inl ⟨z, rfl⟩
      · exact Or.inr (by omega)
    · have hid : ∀ j, j < n → idI 24 j = nI j := fun j hj => by
        simp only [idI]
        rw [if_pos (by omega)]
      exact ⟨fun j hj => ⟨j, hj, hid j hj, hid j hj⟩, fun j hj => ⟨j, hj, hid j hj, hid j hj⟩⟩
    · exact fun _ _ => Or.inl rfl
    · have hm : ∀ u, u < 20 → m1I 20 u = -1 := fun u hu => by
        simp only [m1I]
        rw [if_pos hu]
      refine ⟨fun u hu => Or.inl (hm u hu), fun k hk => ?_⟩
      have : cntN (m1I 20) (nI k) 20 = cntN (fun _ => -1) (nI k) 20 := cntN_same (fun j hj => by rw [hm j hj])
      rw [this]
      have h0 : ∀ i, cntN (fun _ => (-1 : Int32)) (nI k) i = 0 := by
        intro i
        induction i with
        | zero => rfl
        | succ i ih =>
          simp only [cntN]
          rw [ih, if_neg (fun e => nI_ne_m1 (by omega) e.symm)]
      rw [h0]
      omega
    · exact fun _ _ => ⟨0, by omega, rfl⟩
    · exact fun _ _ => Or.inl rfl
    · exact fun i hi => absurd hi (Nat.not_lt_zero i)
    · exact ⟨by omega, fun i hi => absurd hi (Nat.not_lt_zero i)⟩
    · exact Or.inl rfl
  refine ⟨fun c => ⟨fun c2 => ?_, fun c2 => ?_⟩, fun c => ?_⟩
  · have e := (e2.1 c).1 c2
    refine e_M141 (fun _ => e_M162 (fun _ => ?_))
    exact fin _ e
  · have e := (e2.1 c).2 c2
    refine e_M141 (fun _ => e_M162 (fun _ => ?_))
    exact fin _ e
  · have e := e2.2 c
    refine e_M141 (fun _ => e_M162 (fun _ => ?_))
    exact fin _ e
