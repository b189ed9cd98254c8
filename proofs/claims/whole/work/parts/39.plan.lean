/-! PURE: the invariant, plan -/
theorem op_plan {x1 few ex msh : Int32} {n ll fr st : Nat} {pl bl f list sh sp tk tr be mplan mshelf mtrial : Nat → Int32} {sa : Nat → Int32} {out : Nat → Int64} {V1 : Prop}
    {REC : Int32 → Int32 → Int32 → (Nat → Int32) → (Nat → Int32) → (Nat → Int32) → (Nat → Int32) → (Nat → Int32) → (Nat → Int64) → Int32 → Int32 → Int32 → Int32 → (Nat → Int32) → (Nat → Int32) → (Nat → Int32) → Prop}
    (v1 : V1) (hn : n ≤ 24) (hl : ll ≤ 8) (hfr : IR n fr) (ha : IA n pl sa) (hbl : IB bl) (hf : IF n f) (hli : IL ll list)
    (h0 : ∀ o th ms' msf' mt', REC (nI st) few ex sh sp tk tr be o th (nI st) ex ms' mplan msf' mt')
    (h1 : ∀ st' few' ex' sh' sp' tk' tr' be' o th ms' mp' msf' mt', IP st' sh' be' mp' → isB ex' → REC (nI st') few' ex' sh' sp' tk' tr' be' o th (nI st') ex' ms' mp' msf' mt') :
    V1 ∧ p_L_plan x1 (nI n) (nI ll) (nI fr) pl bl f list (nI n) (nI st) few ex sh sp tk tr be out (fun r st' few' ex' sh' sp' tk' tr' be' o => V1 ∧ p_M_plan x1 (nI n) (nI fr) (nI ll) (nI st) ex msh pl bl f list mplan mshelf mtrial (fun b th p'' w'' ms'' mp'' msf'' mt'' => chkI r o b th (REC st' few' ex' sh' sp' tk' tr' be' o th p'' w'' ms'' mp'' msf'' mt''))) := by
  refine ⟨v1, ?_⟩
  show p_C_plan x1 (nI n) (nI ll) (nI fr) pl bl f list (nI n) (nI st) few ex sh sp tk tr be _ _
  rcases rng x1 (show 7 < 2 ^ 31 by decide) with hx | ⟨k, hk, rfl⟩
  · have hM : ∀ o, p_M_plan x1 (nI n) (nI fr) (nI ll) (nI st) ex msh pl bl f list mplan mshelf mtrial (fun b th p'' w'' ms'' mp'' msf'' mt'' => chkI 1 o b th (REC (nI st) few ex sh sp tk tr be o th p'' w'' ms'' mp'' msf'' mt'')) := fun o => e_none_o (n := 7) hx ⟨fun c => absurd c one_ne, fun _ => chkI_thr (by decide) (h0 _ _ _ _ _)⟩
    refine ⟨fun _ => Or.inl ⟨rfl, v1, hM _⟩, fun c => ⟨fun c2 => ?_, fun _ => Or.inl ⟨rfl, v1, hM _⟩⟩⟩
    rcases hx with hx | hx
    · exact absurd hx c
    · exact absurd (Int32.le_trans hx c2) (by decide)
  · refine ⟨fun c => absurd c (nI_pos (by omega)), fun _ => ⟨fun _ => ?_, fun c => absurd (nI_le (b := 6) (by omega) (by decide)) c⟩⟩
    refine e_chkC hn hl hf.1 hli (fun all _ => ?_) (fun nall => Or.inr ⟨rfl, v1, e_none_i (n := 7) hk (by decide) ⟨fun _ => e_chkM hn hl hf.1 hli (fun all => absurd all nall) (fun _ => ⟨fun c => absurd rfl c, fun _ => chkI_thr (by decide) (h0 _ _ _ _ _)⟩), fun c => absurd rfl c⟩⟩)
    obtain ⟨h, hh⟩ : ∃ h : Nat → Bool, ∀ k, h k = hsB f list (nI k) ll := ⟨_, fun _ => rfl⟩
    have hm8 : cS h n ≤ 8 := by
      have e1 : cS h n = cS (fun k => hsB f list (nI k) ll) n := cS_same (fun k _ => hh k)
      have e2 := cS_hs (f := f) (list := list) hn ll
      omega
    obtain ⟨s, hs⟩ := stops_ex h n
    have hsn : ∀ i, i < cS h n → s i < n := fun i hi => (hs i hi).1
    have hPe : ∀ i, ∃ p, i < cS h n → p < n ∧ pl (s i) = nI p := by
      intro i
      by_cases q : i < cS h n
      · obtain ⟨p, hp, e, _⟩ := ha.1 (s i) (hsn i q)
        exact ⟨p, fun _ => ⟨hp, e⟩⟩
      · exact ⟨0, fun c => absurd c q⟩
    obtain ⟨P, hP⟩ : ∃ P : Nat → Nat, ∀ i, i < cS h n → P i < n ∧ pl (s i) = nI (P i) := ⟨fun i => Classical.choose (hPe i), fun i => Classical.choose_spec (hPe i)⟩
    have hfr' : 0 < cS h n → fr < n := fun q => by
      have := hsn 0 q
      rcases hfr with ⟨a, _⟩ | b
      · omega
      · exact b
    have hPl : ∀ i, i < cS h n → P i < n := fun i hi => (hP i hi).1
    have hsp : ∀ i, i < cS h n → upS h sp pl n i = nI (P i) := fun i hi => by rw [(hs i hi).2, (hP i hi).2]
    have htk : ∀ i, i < cS h n → upS h tk (fun _ => 0) n i = 0 := fun i hi => (hs i hi).2 tk (fun _ => 0)
    have hsh : ∀ g i, i < cS h n → upS h g nI n i = nI (s i) := fun g i hi => (hs i hi).2 g nI
    refine e_stopsC hn hl hli hh hm8 (fun _ => ?_)
    refine ⟨fun c => ?_, fun c => ?_⟩
    · have c3 := (nI_ltI (by omega) (by omega)).mp c
      have hfrn := hfr' (by omega)
      have hrN : ∀ i, i < cS h n → rN P n (cS h n) fr i < cS h n := fun i hi => (rN_ok (rS_ok hfrn hPl (Nat.le_of_lt hi)).1 hi).2.1
      refine e_ruleC hm8 hn hfrn hPl hsp htk (fun tk' be' hb => ⟨v01, v1, ?_⟩)
      refine e_none_i (n := 7) hk (by decide) ⟨fun _ => e_chkM hn hl hf.1 hli (fun _ _ => e_stopsM hn hl hli hh hm8 (fun _ => ⟨fun _ => ⟨fun _ => ?_, fun c2 => absurd c c2⟩, fun c2 => absurd c2 one_ne⟩)) (fun q => absurd all q), fun c2 => absurd rfl c2⟩
      refine e_ruleM hm8 hn hfrn hsn hP (hsh mshelf) (fun mt' ht => e_cpyM hm8 (fun _ mp' hmp => e_turnsOf (o := rN P n (cS h n) fr) hm8 hn hfr' hsn hP hrN ht (chkI_up (by rw [(rS_c _).2]) (h1 _ _ _ _ _ _ _ _ _ _ _ _ _ _ ?_ (Or.inl rfl)))))
      exact ⟨hm8, fun i hi => ⟨rN P n (cS h n) fr i, by have := hrN i hi; omega, hb i hi, by rw [hsh sh _ (hrN i hi), hmp i hi, ht i hi]⟩⟩
    · have c3 : ¬ k < cS h n := fun q => c (nI_lt q (by omega))
      have hm6 : cS h n ≤ 6 := by omega
      refine e_allC hm6 hn hfr' hPl hsp htk (fun j tk' tr' be' hj hb => ⟨v01, v1, ?_⟩)
      refine e_none_i (n := 7) hk (by decide) ⟨fun _ => e_chkM hn hl hf.1 hli (fun _ _ => e_stopsM hn hl hli hh hm8 (fun _ => ⟨fun _ => ⟨fun c2 => absurd c2 c, fun _ => ?_⟩, fun c2 => absurd c2 one_ne⟩)) (fun q => absurd all q), fun c2 => absurd rfl c2⟩
      refine e_fac73 hm8 (fun _ => e_bestM hm6 hn hfr' hsn hP (hsh mshelf) (fun j2 _ mt1 hj2 => ?_))
      have := FM_u hj hj2
      subst this
      have hoN : ∀ i, i < cS h n → oN (cS h n) j i < cS h n := fun i hi => oN_lt hj.1 hi
      refine e_theOrder hm6 hj.1 (hsh mshelf) (fun mt' ht => e_cpyM hm8 (fun _ mp' hmp => e_turnsOf (o := oN (cS h n) j) hm8 hn hfr' hsn hP hoN ht (chkI_up rfl (h1 _ _ _ _ _ _ _ _ _ _ _ _ _ _ ?_ (Or.inr rfl)))))
      exact ⟨hm8, fun i hi => ⟨oN (cS h n) j i, by have := hoN i hi; omega, hb i hi, by rw [hsh sh _ (hoN i hi), hmp i hi, ht i hi]⟩⟩
