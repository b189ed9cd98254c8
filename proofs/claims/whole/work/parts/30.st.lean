/-! PURE: the stops of a plan: both sides -/
def IR (n fr : Nat) : Prop := (n = 0 ∧ fr = 0) ∨ fr < n
def IA (n : Nat) (pl sa : Nat → Int32) : Prop := (∀ j, j < n → ∃ p, p < n ∧ pl j = nI p ∧ sa p = nI j) ∧ (∀ p, p < n → ∃ j, j < n ∧ sa p = nI j ∧ pl j = nI p)
def IB (bl : Nat → Int32) : Prop := ∀ j, j < 24 → isB (bl j)
def IF (n : Nat) (f : Nat → Int32) : Prop := (∀ u, u < 20 → f u = -1 ∨ ∃ k, k < n ∧ f u = nI k) ∧ (∀ k, k < n → cntN f (nI k) 20 ≤ 4)
def IC (k : Nat) (c : Nat → Int32) : Prop := ∀ u, u < 20 → ∃ v, v ≤ 64 * k ∧ c u = nI v
def ID (d : Nat → Int32) : Prop := ∀ j, j < 2 → isB (d j)
def IL (ll : Nat) (list : Nat → Int32) : Prop := ∀ i, i < ll → ∃ u, u < 20 ∧ list i = nI u
def IP (st : Nat) (sh be plan : Nat → Int32) : Prop := st ≤ 8 ∧ ∀ i, i < st → ∃ b, b < 8 ∧ be i = nI b ∧ sh b = plan i
def okL (f bl : Nat → Int32) (n : Nat) (list : Nat → Int32) (i : Nat) : Prop := ∃ u, u < 20 ∧ list i = nI u ∧ fch f bl n u
theorem e_chkC {n ll : Nat} {st few ex : Int32} {bl f list sh sp tk tr be : Nat → Int32} {pex : String → Int32 → Int32 → Int32 → (Nat → Int32) → (Nat → Int32) → (Nat → Int32) → (Nat → Int32) → (Nat → Int32) → Prop} {K : Int32 → Prop} (hn : n ≤ 24) (hl : ll ≤ 8) (hf : ∀ u, u < 20 → f u = -1 ∨ ∃ k, k < n ∧ f u = nI k) (hli : IL ll list)
    (h1 : (∀ i, i < ll → okL f bl n list i) → ∀ x, K x) (h0 : ¬ (∀ i, i < ll → okL f bl n list i) → pex "java/lang/IllegalStateException" st few ex sh sp tk tr be) :
    ∃ m, p_C_plan_L22 (nI n) (nI ll) bl f list st few ex sh sp tk tr be pex K m (0 : Int32) := by
  refine pk_loop (fun m i (_ : Unit) => p_C_plan_L22 (nI n) (nI ll) bl f list st few ex sh sp tk tr be pex K m (nI i)) (fun i _ => ∀ a, a < i → okL f bl n list a) ll 0 () (Nat.zero_le _) (fun a h => absurd h (Nat.not_lt_zero a)) ?_ ?_
  · intro m s hI
    exact ⟨fun _ => h1 hI _, fun c => absurd (nI_le (Nat.le_refl ll) (by omega)) c⟩
  · intro m i s hi hI hr
    obtain ⟨u, hu, e⟩ := hli i hi
    refine ⟨fun c => absurd c (nI_ge hi (by omega)), fun _ => ⟨vp_in_nI (show i < 8 by omega) (by decide), ?_⟩⟩
    rw [nI_clamp (by omega), e, nI_1]
    refine e_can hu hn (hf u hu) (fun q => ⟨fun _ => hr () (lt_s hI ⟨u, hu, e, q⟩), fun c => absurd c one_ne⟩) (fun q => ⟨fun c => absurd rfl c, fun _ => h0 (fun all => ?_)⟩)
    obtain ⟨u2, hu2, e2, q2⟩ := all i hi
    have := nI_inj (by omega) (by omega) (e.symm.trans e2)
    subst this
    exact q q2
theorem e_chkM {n ll : Nat} {ms : Int32} {bl f list msf : Nat → Int32} {post : Int32 → Int32 → (Nat → Int32) → Prop} {K : Int32 → Prop} (hn : n ≤ 24) (hl : ll ≤ 8) (hf : ∀ u, u < 20 → f u = -1 ∨ ∃ k, k < n ∧ f u = nI k) (hli : IL ll list)
    (h1 : (∀ i, i < ll → okL f bl n list i) → ∀ x, K x) (h0 : ¬ (∀ i, i < ll → okL f bl n list i) → post 0 ms msf) :
    ∃ m, p_M_findShelves_L7 (nI ll) ms bl f list msf post K m (0 : Int32) := by
  refine pk_loop (fun m i (_ : Unit) => p_M_findShelves_L7 (nI ll) ms bl f list msf post K m (nI i)) (fun i _ => ∀ a, a < i → okL f bl n list a) ll 0 () (Nat.zero_le _) (fun a h => absurd h (Nat.not_lt_zero a)) ?_ ?_
  · intro m s hI
    exact ⟨fun _ => h1 hI _, fun c => absurd (nI_le (Nat.le_refl ll) (by omega)) c⟩
  · intro m i s hi hI hr
    obtain ⟨u, hu, e⟩ := hli i hi
    have eu : (nI u).toNatClampNeg = u := nI_clamp (by omega)
    refine ⟨fun c => absurd c (nI_ge hi (by omega)), fun _ => ⟨vp_in_nI (show i < 8 by omega) (by decide), ?_⟩⟩
    rw [nI_clamp (by omega), e, nI_1, eu]
    refine ⟨vp_in_nI hu (by decide), ?_⟩
    rcases hf u hu with h | ⟨k, hk, h⟩
    · rw [h]
      refine ⟨fun _ => h0 (fun all => ?_), fun c => absurd m1_neg c⟩
      obtain ⟨u2, hu2, e2, k2, hk2, e3, _⟩ := all i hi
      have := nI_inj (by omega) (by omega) (e.symm.trans e2)
      subst this
      rw [h] at e3
      exact nI_ne_m1 (by omega) e3.symm
    · have ek : (nI k).toNatClampNeg = k := nI_clamp (by omega)
      rw [h, ek]
      refine ⟨fun c => absurd c (nI_pos (by omega)), fun _ => ⟨vp_in_nI (show i < 8 by omega) (by decide), vp_in_nI hu (by decide), vp_in_nI (show k < 24 by omega) (by decide), fun c => hr () (lt_s hI ⟨u, hu, e, k, hk, h, c⟩), fun c => h0 (fun all => ?_)⟩⟩
      obtain ⟨u2, hu2, e2, k2, hk2, e3, b⟩ := all i hi
      have := nI_inj (by omega) (by omega) (e.symm.trans e2)
      subst this
      rw [h] at e3
      have := nI_inj (by omega) (by omega) e3
      subst this
      exact c b
def hsB (f list : Nat → Int32) (x : Int32) : Nat → Bool
  | 0 => false
  | i + 1 => hsB f list x i || decide (f (list i).toNatClampNeg = x)
theorem hsB_of {f list : Nat → Int32} {x : Int32} {i : Nat} (e : f (list i).toNatClampNeg = x) : ∀ {ll : Nat}, i < ll → hsB f list x ll = true
  | 0, h => absurd h (Nat.not_lt_zero i)
  | ll + 1, h => by
    simp only [hsB]
    by_cases q : i = ll
    · subst q
      rw [decide_eq_true e, Bool.or_true]
    · rw [hsB_of e (by omega), Bool.true_or]
theorem hsB_no {f list : Nat → Int32} {x : Int32} {i : Nat} (h : hsB f list x i = false) (c : ¬ f (list i).toNatClampNeg = x) : hsB f list x (i + 1) = false := by
  simp only [hsB]
  rw [h, decide_eq_false c]
  rfl
theorem e_holds {x : Int32} {ll : Nat} {f list : Nat → Int32} {post : Int32 → Prop} (hl : ll ≤ 8) (hli : IL ll list) (h1 : hsB f list x ll = true → post 1) (h0 : hsB f list x ll = false → post 0) : p_C_holdsListed x (nI ll) f list post := by
  refine pk_loop (fun n i (_ : Unit) => p_C_holdsListed_L2 x (nI ll) f list post (fun _ => post 0) n (nI i)) (fun i _ => hsB f list x i = false) ll 0 () (Nat.zero_le _) rfl ?_ ?_
  · intro n s hI
    exact ⟨fun _ => h0 hI, fun c => absurd (nI_le (Nat.le_refl ll) (by omega)) c⟩
  · intro n i s hi hI hr
    obtain ⟨u, hu, e⟩ := hli i hi
    refine ⟨fun c => absurd c (nI_ge hi (by omega)), fun _ => ⟨vp_in_nI (show i < 8 by omega) (by decide), ?_⟩⟩
    rw [nI_clamp (show i < 2 ^ 31 by omega), nI_1]
    refine ⟨by rw [e]; exact vp_in_nI hu (by decide), fun c => hr () (hsB_no hI c), fun c => h1 (hsB_of c hi)⟩
theorem e_holdsM {x : Int32} {ll : Nat} {f list : Nat → Int32} {K : Int32 → Int32 → Prop} (hl : ll ≤ 8) (hli : IL ll list) (h1 : hsB f list x ll = true → ∀ y, K 1 y) (h0 : hsB f list x ll = false → ∀ y, K 0 y) : ∃ m, p_M_findShelves_L70 x (nI ll) f list K m (0 : Int32) (0 : Int32) := by
  refine pk_loop (fun n i (s : Int32) => p_M_findShelves_L70 x (nI ll) f list K n s (nI i)) (fun i s => (s = 0 ∧ hsB f list x i = false) ∨ (s = 1 ∧ hsB f list x i = true)) ll 0 0 (Nat.zero_le _) (Or.inl ⟨rfl, rfl⟩) ?_ ?_
  · intro n s hI
    refine ⟨fun _ => ?_, fun c => absurd (nI_le (Nat.le_refl ll) (by omega)) c⟩
    rcases hI with ⟨rfl, q⟩ | ⟨rfl, q⟩
    · exact h0 q _
    · exact h1 q _
  · intro n i s hi hI hr
    obtain ⟨u, hu, e⟩ := hli i hi
    refine ⟨fun c => absurd c (nI_ge hi (by omega)), fun _ => ?_⟩
    rw [nI_1, nI_clamp (show i < 2 ^ 31 by omega)]
    rcases hI with ⟨rfl, q⟩ | ⟨rfl, q⟩
    · refine ⟨fun c => absurd rfl c, fun _ => ⟨vp_in_nI (show i < 8 by omega) (by decide), by rw [e]; exact vp_in_nI hu (by decide), fun c => hr _ (Or.inl ⟨rfl, hsB_no q c⟩), fun c => hr _ (Or.inr ⟨rfl, hsB_of c (Nat.lt_succ_self i)⟩)⟩⟩
    · refine ⟨fun _ => hr _ (Or.inr ⟨rfl, ?_⟩), fun c => absurd c one_ne⟩
      simp only [hsB]
      rw [q, Bool.true_or]
-- counting what holds
def cS (h : Nat → Bool) : Nat → Nat
  | 0 => 0
  | k + 1 => cS h k + (if h k = true then 1 else 0)
theorem cS_t {h : Nat → Bool} {k : Nat} (q : h k = true) : cS h (k + 1) = cS h k + 1 := by simp only [cS]; rw [if_pos q]
theorem cS_f {h : Nat → Bool} {k : Nat} (q : h k = false) : cS h (k + 1) = cS h k := by simp only [cS]; rw [if_neg (by rw [q]; decide), Nat.add_zero]
theorem cS_mono (h : Nat → Bool) {i : Nat} : ∀ {n : Nat}, i ≤ n → cS h i ≤ cS h n
  | 0, q => by
    have : i = 0 := by omega
    subst this
    exact Nat.le_refl _
  | n + 1, q => by
    by_cases e : i = n + 1
    · subst e
      exact Nat.le_refl _
    · have := cS_mono h (i := i) (n := n) (by omega)
      simp only [cS]
      omega
theorem cS_ex {h : Nat → Bool} {i : Nat} : ∀ {n : Nat}, i < cS h n → ∃ k, k < n ∧ h k = true ∧ cS h k = i
  | 0, q => absurd q (Nat.not_lt_zero i)
  | n + 1, q => by
    by_cases c : i < cS h n
    · obtain ⟨k, a, b, d⟩ := cS_ex c
      exact ⟨k, by omega, b, d⟩
    · cases hh : h n with
      | true =>
        rw [cS_t hh] at q
        exact ⟨n, by omega, hh, by omega⟩
      | false =>
        rw [cS_f hh] at q
        exact absurd q c
theorem cS_same {h h2 : Nat → Bool} : ∀ {n : Nat}, (∀ k, k < n → h k = h2 k) → cS h n = cS h2 n
  | 0, _ => rfl
  | n + 1, q => by
    simp only [cS]
    rw [cS_same (n := n) (fun k hk => q k (by omega)), q n (by omega)]
theorem cS_or {h : Nat → Bool} {a : Int32} : ∀ {n : Nat}, n ≤ 24 → cS (fun k => h k || decide (a = nI k)) n ≤ cS h n + 1
  | 0, _ => Nat.zero_le _
  | n + 1, hn => by
    by_cases e : a = nI n
    · have h1 : cS (fun k => h k || decide (a = nI k)) n = cS h n := cS_same (fun k hk => by
        have : ¬ a = nI k := fun c => by
          have := nI_inj (by omega) (by omega) (e.symm.trans c)
          omega
        rw [decide_eq_false this, Bool.or_false])
      simp only [cS]
      rw [h1]
      split <;> split <;> omega
    · have ih := cS_or (h := h) (a := a) (n := n) (by omega)
      cases hh : h n with
      | true =>
        rw [cS_t hh, cS_t (h := fun k => h k || decide (a = nI k)) (by simp [hh])]
        omega
      | false =>
        rw [cS_f hh, cS_f (h := fun k => h k || decide (a = nI k)) (by simp [hh, e])]
        exact ih
theorem cS_hs {f list : Nat → Int32} {n : Nat} (hn : n ≤ 24) : ∀ ll, cS (fun k => hsB f list (nI k) ll) n ≤ ll
  | 0 => by
    have : ∀ n, cS (fun k => hsB f list (nI k) 0) n = 0 := by
      intro n
      induction n with
      | zero => rfl
      | succ n ih => rw [cS_f rfl]; exact ih
    rw [this]
    exact Nat.le_refl 0
  | ll + 1 => by
    have ih := cS_hs (f := f) (list := list) hn ll
    have h1 := cS_or (h := fun k => hsB f list (nI k) ll) (a := f (list ll).toNatClampNeg) hn
    simp only [hsB]
    omega
def upS (h : Nat → Bool) (g v : Nat → Int32) : Nat → (Nat → Int32)
  | 0 => g
  | k + 1 => if h k = true then upd (upS h g v k) (cS h k) (v k) else upS h g v k
theorem upS_t {h : Nat → Bool} {g v : Nat → Int32} {k : Nat} (q : h k = true) : upS h g v (k + 1) = upd (upS h g v k) (cS h k) (v k) := by simp only [upS]; rw [if_pos q]
theorem upS_f {h : Nat → Bool} {g v : Nat → Int32} {k : Nat} (q : h k = false) : upS h g v (k + 1) = upS h g v k := by simp only [upS]; rw [if_neg (by rw [q]; decide)]
theorem upS_get {h : Nat → Bool} {g v : Nat → Int32} {k : Nat} (hk : h k = true) : ∀ {n : Nat}, k < n → upS h g v n (cS h k) = v k
  | 0, q => absurd q (Nat.not_lt_zero k)
  | n + 1, q => by
    by_cases e : k = n
    · subst e
      rw [upS_t hk, pk_us]
    · have ih := upS_get (g := g) (v := v) hk (n := n) (by omega)
      cases hh : h n with
      | true =>
        have h1 := cS_t hk
        have h2 := cS_mono h (show k + 1 ≤ n by omega)
        rw [upS_t hh, pk_un (by omega)]
        exact ih
      | false =>
        rw [upS_f hh]
        exact ih
theorem stops_ex (h : Nat → Bool) (n : Nat) : ∃ s : Nat → Nat, ∀ i, i < cS h n → s i < n ∧ ∀ g v, upS h g v n i = v (s i) := by
  have : ∀ i, ∃ k, i < cS h n → k < n ∧ ∀ g v, upS h g v n i = v k := by
    intro i
    by_cases q : i < cS h n
    · obtain ⟨k, a, b, c⟩ := cS_ex q
      exact ⟨k, fun _ => ⟨a, fun g v => by rw [← c]; exact upS_get b a⟩⟩
    · exact ⟨0, fun c => absurd c q⟩
  exact ⟨fun i => Classical.choose (this i), fun i => Classical.choose_spec (this i)⟩
theorem e_stopsC {h : Nat → Bool} {n ll : Nat} {pl f list sh sp tk : Nat → Int32} {K : Int32 → Int32 → (Nat → Int32) → (Nat → Int32) → (Nat → Int32) → Prop} (hn : n ≤ 24) (hl : ll ≤ 8) (hli : IL ll list) (hh : ∀ k, h k = hsB f list (nI k) ll) (h8 : cS h n ≤ 8)
    (hK : ∀ x, K x (nI (cS h n)) (upS h sh nI n) (upS h sp pl n) (upS h tk (fun _ => 0) n)) : ∃ m, p_C_plan_L68 (nI n) (nI ll) pl f list K m (0 : Int32) (0 : Int32) sh sp tk := by
  refine pk_loop (fun m i (_ : Unit) => p_C_plan_L68 (nI n) (nI ll) pl f list K m (nI i) (nI (cS h i)) (upS h sh nI i) (upS h sp pl i) (upS h tk (fun _ => 0) i)) (fun _ _ => True) n 0 () (Nat.zero_le _) trivial ?_ ?_
  · intro m s _
    exact ⟨fun _ => hK _, fun c => absurd (nI_le (Nat.le_refl n) (by omega)) c⟩
  · intro m i s hi _ hr
    have hr' := hr () trivial
    refine ⟨fun c => absurd c (nI_ge hi (by omega)), fun _ => e_holds hl hli (fun q => ⟨fun c => absurd c one_ne, fun _ => ⟨vp_in_nI (show i < 24 by omega) (by decide), ?_⟩⟩) (fun q => ⟨fun _ => ?_, fun c => absurd rfl c⟩)⟩
    · rw [← hh] at q
      have hm := cS_mono h (show i + 1 ≤ n by omega)
      rw [cS_t q] at hm
      have e8 : cS h i < 8 := by omega
      rw [cS_t q, upS_t q, upS_t q, upS_t q] at hr'
      refine ⟨fun c => absurd c (nI_ge (b := 8) e8 (by decide)), fun _ => ⟨vp_in_nI e8 (by decide), vp_in_nI e8 (by decide), vp_in_nI e8 (by decide), ?_⟩⟩
      have e1 : (nI (cS h i)).toNatClampNeg = cS h i := nI_clamp (by omega)
      have e2 : (nI i).toNatClampNeg = i := nI_clamp (by omega)
      rw [e1, e2, isB_n0]
      rw [← nI_1, ← nI_1 (cS h i)] at hr'
      exact hr'
    · rw [← hh] at q
      rw [cS_f q, upS_f q, upS_f q, upS_f q] at hr'
      rw [nI_1]
      exact hr'
theorem e_stopsM {h : Nat → Bool} {n ll : Nat} {f list msf : Nat → Int32} {K : Int32 → Int32 → (Nat → Int32) → Prop} (hn : n ≤ 24) (hl : ll ≤ 8) (hli : IL ll list) (hh : ∀ k, h k = hsB f list (nI k) ll) (h8 : cS h n ≤ 8)
    (hK : ∀ x, K x (nI (cS h n)) (upS h msf nI n)) : ∃ m, p_M_findShelves_L58 (nI n) (nI ll) f list K m (0 : Int32) (0 : Int32) msf := by
  refine pk_loop (fun m i (_ : Unit) => p_M_findShelves_L58 (nI n) (nI ll) f list K m (nI i) (nI (cS h i)) (upS h msf nI i)) (fun _ _ => True) n 0 () (Nat.zero_le _) trivial ?_ ?_
  · intro m s _
    exact ⟨fun _ => hK _, fun c => absurd (nI_le (Nat.le_refl n) (by omega)) c⟩
  · intro m i s hi _ hr
    have hr' := hr () trivial
    refine ⟨fun c => absurd c (nI_ge hi (by omega)), fun _ => e_holdsM hl hli (fun q _ => ⟨fun c => absurd c one_ne, fun _ => ?_⟩) (fun q _ => ⟨fun _ => ?_, fun c => absurd rfl c⟩)⟩
    · rw [← hh] at q
      have hm := cS_mono h (show i + 1 ≤ n by omega)
      rw [cS_t q] at hm
      have e8 : cS h i < 8 := by omega
      rw [cS_t q, upS_t q] at hr'
      refine ⟨vp_in_nI e8 (by decide), ?_⟩
      have e1 : (nI (cS h i)).toNatClampNeg = cS h i := nI_clamp (by omega)
      rw [e1]
      rw [← nI_1, ← nI_1 (cS h i)] at hr'
      exact hr'
    · rw [← hh] at q
      rw [cS_f q, upS_f q] at hr'
      rw [nI_1]
      exact hr'
