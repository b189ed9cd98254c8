/-! PURE: the invariant, plan -/
def IR (n fr : Nat) : Prop := (n = 0 ∧ fr = 0) ∨ fr < n
def IA (n : Nat) (pl sa : Nat → Int32) : Prop := (∀ j, j < n → ∃ p, p < n ∧ pl j = nI p ∧ sa p = nI j) ∧ (∀ p, p < n → ∃ j, j < n ∧ sa p = nI j ∧ pl j = nI p)
def IB (bl : Nat → Int32) : Prop := ∀ j, j < 24 → isB (bl j)
def IF (n : Nat) (f : Nat → Int32) : Prop := (∀ u, u < 20 → f u = -1 ∨ ∃ k, k < n ∧ f u = nI k) ∧ (∀ k, k < n → cntN f (nI k) 20 ≤ 4)
def IC (k : Nat) (c : Nat → Int32) : Prop := ∀ u, u < 20 → ∃ v, v ≤ 64 * k ∧ c u = nI v
def ID (d : Nat → Int32) : Prop := ∀ j, j < 2 → isB (d j)
def IL (ll : Nat) (list : Nat → Int32) : Prop := ∀ i, i < ll → ∃ u, u < 20 ∧ list i = nI u
def IP (st : Nat) (sh be plan : Nat → Int32) : Prop := st ≤ 8 ∧ ∀ i, i < st → ∃ b, b < 8 ∧ be i = nI b ∧ sh b = plan i
theorem op_plan {x1 few ex msh : Int32} {n ll fr st : Nat} {pl bl f list sh sp tk tr be mplan mshelf mtrial : Nat → Int32} {sa : Nat → Int32} {out : Nat → Int64} {V1 : Prop}
    {REC : Int32 → Int32 → Int32 → (Nat → Int32) → (Nat → Int32) → (Nat → Int32) → (Nat → Int32) → (Nat → Int32) → (Nat → Int64) → Int32 → Int32 → Int32 → Int32 → (Nat → Int32) → (Nat → Int32) → (Nat → Int32) → Prop}
    (v1 : V1) (hn : n ≤ 24) (hl : ll ≤ 8) (hfr : IR n fr) (ha : IA n pl sa) (hbl : IB bl) (hf : IF n f) (hli : IL ll list)
    (h0 : ∀ o th ms' msf' mt', REC (nI st) few ex sh sp tk tr be o th (nI st) ex ms' mplan msf' mt')
    (h1 : ∀ st' few' ex' sh' sp' tk' tr' be' o th ms' mp' msf' mt', IP st' sh' be' mp' → isB ex' → REC (nI st') few' ex' sh' sp' tk' tr' be' o th (nI st') ex' ms' mp' msf' mt') :
    V1 ∧ p_L_plan x1 (nI n) (nI ll) (nI fr) pl bl f list (nI n) (nI st) few ex sh sp tk tr be out (fun r st' few' ex' sh' sp' tk' tr' be' o => V1 ∧ p_M_plan x1 (nI n) (nI fr) (nI ll) (nI st) ex msh pl bl f list mplan mshelf mtrial (fun b th p'' w'' ms'' mp'' msf'' mt'' => chkI r o b th (REC st' few' ex' sh' sp' tk' tr' be' o th p'' w'' ms'' mp'' msf'' mt''))) := by
  sorry
