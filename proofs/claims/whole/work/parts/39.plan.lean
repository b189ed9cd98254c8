/-! PURE: the invariant, plan -/
theorem op_plan {x1 few ex msh : Int32} {n ll fr st : Nat} {pl bl f list sh sp tk tr be mplan mshelf mtrial : Nat → Int32} {sa : Nat → Int32} {out : Nat → Int64} {V1 : Prop}
    {REC : Int32 → Int32 → Int32 → (Nat → Int32) → (Nat → Int32) → (Nat → Int32) → (Nat → Int32) → (Nat → Int32) → (Nat → Int64) → Int32 → Int32 → Int32 → Int32 → (Nat → Int32) → (Nat → Int32) → (Nat → Int32) → Prop}
    (v1 : V1) (hn : n ≤ 24) (hl : ll ≤ 8) (hfr : IR n fr) (ha : IA n pl sa) (hbl : IB bl) (hf : IF n f) (hli : IL ll list)
    (h0 : ∀ o th ms' msf' mt', REC (nI st) few ex sh sp tk tr be o th (nI st) ex ms' mplan msf' mt')
    (h1 : ∀ st' few' ex' sh' sp' tk' tr' be' o th ms' mp' msf' mt', IP st' sh' be' mp' → isB ex' → REC (nI st') few' ex' sh' sp' tk' tr' be' o th (nI st') ex' ms' mp' msf' mt') :
    V1 ∧ p_L_plan x1 (nI n) (nI ll) (nI fr) pl bl f list (nI n) (nI st) few ex sh sp tk tr be out (fun r st' few' ex' sh' sp' tk' tr' be' o => V1 ∧ p_M_plan x1 (nI n) (nI fr) (nI ll) (nI st) ex msh pl bl f list mplan mshelf mtrial (fun b th p'' w'' ms'' mp'' msf'' mt'' => chkI r o b th (REC st' few' ex' sh' sp' tk' tr' be' o th p'' w'' ms'' mp'' msf'' mt''))) := by
  sorry
