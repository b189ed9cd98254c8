/-! PURE: the exact way, both sides -/
def fac : Nat → Nat
  | 0 => 1
  | k + 1 => (k + 1) * fac k
theorem fac_pos : ∀ k, 0 < fac k
  | 0 => by decide
  | k + 1 => Nat.mul_pos (Nat.succ_pos k) (fac_pos k)
theorem fac_le : ∀ k, k < 8 → fac k ≤ 5040 := by decide
def un (T : Nat → Bool) (i : Nat) : Nat := cS (fun j => !T j) i
theorem un_t {T : Nat → Bool} {i : Nat} (h : T i = true) : un T (i + 1) = un T i := cS_f (h := fun j => !T j) (by simp [h])
theorem un_f {T : Nat → Bool} {i : Nat} (h : T i = false) : un T (i + 1) = un T i + 1 := cS_t (h := fun j => !T j) (by simp [h])
theorem un_mono (T : Nat → Bool) {i n : Nat} (h : i ≤ n) : un T i ≤ un T n := cS_mono _ h
theorem un_add {T : Nat → Bool} {b : Nat} (hb : T b = false) : ∀ {m : Nat}, b < m → un (fun j => j == b || T j) m + 1 = un T m
  | 0, h => absurd h (Nat.not_lt_zero b)
  | m + 1, h => by
    by_cases e : b = m
    · subst e
      rw [un_f hb, un_t (T := fun j => j == b || T j) (by simp)]
      have : un (fun j => j == b || T j) b = un T b := cS_same (fun k hk => by
        have : (k == b) = false := by simp; omega
        show (!(k == b || T k)) = !T k
        rw [this, Bool.false_or])
      rw [this]
    · have ih := un_add hb (m := m) (by omega)
      have e2 : (m == b) = false := by simp; omega
      cases hh : T m with
      | true =>
        rw [un_t hh, un_t (T := fun j => j == b || T j) (by simp [hh]), ih]
      | false =>
        rw [un_f hh, un_f (T := fun j => j == b || T j) (by simp only [e2, hh]; rfl)]
        omega
def sel (T : Nat → Bool) (c : Nat) : Nat → Nat
  | 0 => 0
  | i + 1 => if un T i = c ∧ T i = false then i else sel T c i
theorem sel_e {T : Nat → Bool} {c i : Nat} (h1 : un T i = c) (h2 : T i = false) : ∀ {m : Nat}, i < m → sel T c m = i
  | 0, h => absurd h (Nat.not_lt_zero i)
  | m + 1, h => by
    simp only [sel]
    by_cases e : i = m
    · subst e
      rw [if_pos ⟨h1, h2⟩]
    · have h3 := un_f h2
      have h4 := un_mono T (show i + 1 ≤ m by omega)
      rw [if_neg (fun q => by omega)]
      exact sel_e h1 h2 (by omega)
theorem sel_ok {T : Nat → Bool} {c m : Nat} (h : c < un T m) : sel T c m < m ∧ T (sel T c m) = false ∧ un T (sel T c m) = c := by
  obtain ⟨i, hi, a, b⟩ := cS_ex h
  have ht : T i = false := by simpa using a
  rw [sel_e b ht hi]
  exact ⟨hi, ht, b⟩
/-- the k-th way by rising numbers -/
def oS (m k : Nat) : Nat → (Nat → Bool) × Nat
  | 0 => (fun _ => false, k)
  | d + 1 => (fun i => i == sel (oS m k d).1 ((oS m k d).2 / fac (m - d - 1)) m || (oS m k d).1 i, (oS m k d).2 % fac (m - d - 1))
def oN (m k d : Nat) : Nat := sel (oS m k d).1 ((oS m k d).2 / fac (m - d - 1)) m
theorem oS_s (m k d : Nat) : oS m k (d + 1) = (fun i => i == oN m k d || (oS m k d).1 i, (oS m k d).2 % fac (m - d - 1)) := rfl
theorem oN_ok {m k d : Nat} (h1 : un (oS m k d).1 m = m - d) (h2 : (oS m k d).2 < fac (m - d)) (hd : d < m) : (oS m k d).2 / fac (m - d - 1) < m - d ∧ oN m k d < m ∧ (oS m k d).1 (oN m k d) = false ∧ un (oS m k d).1 (oN m k d) = (oS m k d).2 / fac (m - d - 1) := by
  have hp := fac_pos (m - d - 1)
  have hc : (oS m k d).2 / fac (m - d - 1) < m - d := by
    rw [Nat.div_lt_iff_lt_mul hp]
    have : fac (m - d) = (m - d) * fac (m - d - 1) := by
      obtain ⟨r, hr⟩ : ∃ r, m - d = r + 1 := ⟨m - d - 1, by omega⟩
      rw [hr]
      rfl
    omega
  exact ⟨hc, sel_ok (by omega)⟩
theorem oS_ok {m k : Nat} (hk : k < fac m) : ∀ {d : Nat}, d ≤ m → un (oS m k d).1 m = m - d ∧ (oS m k d).2 < fac (m - d)
  | 0, _ => by
    refine ⟨?_, hk⟩
    exact cS_all (fun _ _ => rfl)
  | d + 1, hd => by
    obtain ⟨a, b⟩ := oS_ok hk (d := d) (by omega)
    obtain ⟨_, h2, h3, _⟩ := oN_ok a b (by omega)
    rw [oS_s]
    refine ⟨?_, ?_⟩
    · show un (fun i => i == oN m k d || (oS m k d).1 i) m = m - (d + 1)
      have := un_add h3 h2
      omega
    · exact Nat.mod_lt _ (fac_pos _)
theorem oN_lt {m k : Nat} (hk : k < fac m) {d : Nat} (hd : d < m) : oN m k d < m :=
  (oN_ok (oS_ok hk (Nat.le_of_lt hd)).1 (oS_ok hk (Nat.le_of_lt hd)).2 hd).2.1
theorem fac_s {i : Nat} (h : 0 < i) : fac i = i * fac (i - 1) := by
  obtain ⟨r, rfl⟩ : ∃ r, i = r + 1 := ⟨i - 1, by omega⟩
  rfl
-- the reference's k-th way
theorem e_fac22 {m d : Nat} {K : Int32 → Int32 → Prop} (hm : m ≤ 8) (hd : d < m) (h : ∀ y, K (nI (fac (m - d - 1))) y) : ∃ m', p_M_theOrder_L22 (nI d) (nI m) K m' (1 : Int32) (2 : Int32) := by
  refine pk_loop (fun m' i (z : Int32) => p_M_theOrder_L22 (nI d) (nI m) K m' z (nI i)) (fun i z => 2 ≤ i ∧ z = nI (fac (i - 1))) (max 2 (m - d)) 2 1 (by omega) ⟨Nat.le_refl 2, rfl⟩ ?_ ?_
  · intro m' z hI
    obtain ⟨_, rfl⟩ := hI
    have : fac (max 2 (m - d) - 1) = fac (m - d - 1) := by
      by_cases c : m - d = 1
      · rw [c]
        rfl
      · rw [Nat.max_eq_right (by omega)]
    refine ⟨fun _ => by rw [this]; exact h _, fun c => absurd ?_ c⟩
    rw [pk_sub (by omega)]
    exact nI_le (by omega) (by omega)
  · intro m' i z hi hI hr
    obtain ⟨h2, rfl⟩ := hI
    have hi2 : i < m - d := by omega
    refine ⟨fun c => absurd c ?_, fun _ => ?_⟩
    · rw [pk_sub (by omega)]
      exact nI_ge hi2 (by omega)
    · rw [pk_mul, nI_1]
      refine hr _ ⟨by omega, ?_⟩
      rw [show i + 1 - 1 = i from rfl, fac_s (show 0 < i by omega), Nat.mul_comm]
theorem e_fac73 {m : Nat} {K : Int32 → Int32 → Prop} (hm : m ≤ 8) (h : ∀ y, K (nI (fac m)) y) : ∃ m', p_M_plan_L73 (nI m) K m' (1 : Int32) (2 : Int32) := by
  refine pk_loop (fun m' i (z : Int32) => p_M_plan_L73 (nI m) K m' z (nI i)) (fun i z => 2 ≤ i ∧ z = nI (fac (i - 1))) (max 2 (m + 1)) 2 1 (by omega) ⟨Nat.le_refl 2, rfl⟩ ?_ ?_
  · intro m' z hI
    obtain ⟨_, rfl⟩ := hI
    have : fac (max 2 (m + 1) - 1) = fac m := by
      by_cases c : m = 0
      · rw [c]
        rfl
      · rw [Nat.max_eq_right (by omega)]
        rfl
    refine ⟨fun _ => by rw [this]; exact h _, fun c => absurd (nI_lt (show m < max 2 (m + 1) by omega) (by omega)) c⟩
  · intro m' i z hi hI hr
    obtain ⟨h2, rfl⟩ := hI
    have hi2 : i < m + 1 := by omega
    refine ⟨fun c => ?_, fun _ => ?_⟩
    · have := (nI_ltI (by omega) (by omega)).mp c
      omega
    · rw [pk_mul, nI_1]
      refine hr _ ⟨by omega, ?_⟩
      rw [show i + 1 - 1 = i from rfl, fac_s (show 0 < i by omega), Nat.mul_comm]
theorem e_sel61 {x : Int32} {T : Nat → Bool} {c m j : Nat} {K : Int32 → Int32 → Prop} (hx : MB x T) (hm : m ≤ 8) (hc : c < un T m) (hj : sel T c m = j) (h : ∀ y, K y (nI j)) : ∃ m', p_M_theOrder_L61 x K m' (nI c) (0 : Int32) := by
  obtain ⟨h1, h2, h3⟩ := sel_ok hc
  rw [hj] at h1 h2 h3
  have hcm : c < 2 ^ 31 := by
    have : un T m ≤ m := by
      have hle : ∀ i, un T i ≤ i := by
        intro i
        induction i with
        | zero => exact Nat.le_refl 0
        | succ i ih =>
          cases hh : T i with
          | true => rw [un_t hh]; omega
          | false => rw [un_f hh]; omega
      exact hle m
    omega
  refine pk_loop (fun m' i (_ : Unit) => p_M_theOrder_L61 x K m' (nI (c - un T i)) (nI i)) (fun _ _ => True) j 0 () (Nat.zero_le _) trivial ?_ ?_
  · intro m' _ _
    refine And.intro ?_ ?_
    · intro q
      rw [MB_get hx (show j < 8 by omega), h2] at q
      exact absurd q (by decide)
    · intro _
      refine ⟨fun _ => h _, fun q => absurd ?_ q⟩
      rw [h3, Nat.sub_self]
      decide
  · intro m' i _ hi _ hr
    have hr' := hr () trivial
    have hle := un_mono T (show i + 1 ≤ j by omega)
    have hb := MB_get hx (show i < 8 by omega)
    cases hh : T i with
    | true =>
      rw [un_t hh] at hr'
      rw [hh, if_pos rfl] at hb
      refine And.intro ?_ ?_
      · intro _
        refine ⟨fun _ => by rw [nI_1]; exact hr', fun q => ?_⟩
        rw [hb] at q
        exact absurd q one_ne
      · intro q
        exact absurd hb q
    | false =>
      rw [un_f hh] at hle hr'
      rw [hh] at hb
      have hb0 : ((x >>> (nI i &&& 31)) &&& (1 : Int32)) = 0 := hb
      have e1 : c - un T i = (c - (un T i + 1)) + 1 := by omega
      refine And.intro ?_ ?_
      · intro q
        rw [hb0] at q
        exact absurd q (by decide)
      · intro _
        refine ⟨fun q => ?_, fun _ => ⟨fun q => absurd hb0 q, fun _ => ?_⟩⟩
        · have := (nI_leI (a := c - un T i) (b := 0) (by omega) (by omega)).mp q
          omega
        · rw [e1, pk_m1, nI_1]
          exact hr'
theorem e_theOrder {m k : Nat} {s : Nat → Nat} {sh mt : Nat → Int32} {post : (Nat → Int32) → Prop} (hm : m ≤ 6) (hk : k < fac m) (hsh : ∀ i, i < m → sh i = nI (s i))
    (h : ∀ mt', (∀ i, i < m → mt' i = nI (s (oN m k i))) → post mt') : p_M_theOrder (nI k) (nI m) sh mt post := by
  refine pk_loop (fun m' d (z : Int32 × (Nat → Int32)) => p_M_theOrder_L7 (nI m) sh (fun _ _ _ k49 => post k49) m' (nI (oS m k d).2) z.1 (nI d) z.2) (fun d z => MB z.1 (oS m k d).1 ∧ ∀ i, i < d → z.2 i = nI (s (oN m k i))) m 0 (0, mt) (Nat.zero_le _) ⟨MB_0, fun i hi => absurd hi (Nat.not_lt_zero i)⟩ ?_ ?_
  · intro m' z hI
    exact ⟨fun _ => h _ hI.2, fun c => absurd (nI_le (Nat.le_refl m) (by omega)) c⟩
  · intro m' d z hd hI hr
    obtain ⟨a, b⟩ := oS_ok hk (d := d) (by omega)
    obtain ⟨h1, h2, h3, h4⟩ := oN_ok a b hd
    have hf := fac_pos (m - d - 1)
    have hf2 := fac_le (m - d - 1) (by omega)
    have hf3 := fac_le (m - d) (by omega)
    have hne : ¬ nI (fac (m - d - 1)) = 0 := fun e => by
      have := nI_inj (b := 0) (by omega) (by omega) e
      omega
    refine ⟨fun c => absurd c (nI_ge hd (by omega)), fun _ => e_fac22 (by omega) hd (fun _ => ⟨hne, hne, ?_⟩)⟩
    rw [pk_rem (by omega) hf (by omega), pk_div (by omega) hf (by omega)]
    refine e_sel61 (m := m) hI.1 (by omega) (by omega) rfl (fun _ => ?_)
    show vp_in (nI (oN m k d)) 8 ∧ _
    have e3 : (nI (oN m k d)).toNatClampNeg = oN m k d := nI_clamp (by omega)
    have e4 : (nI d).toNatClampNeg = d := nI_clamp (by omega)
    refine ⟨vp_in_nI (show _ < 8 by omega) (by decide), vp_in_nI (show d < 8 by omega) (by decide), ?_⟩
    have key := hr (z.1 ||| ((1 : Int32) <<< (nI (oN m k d) &&& 31)), upd z.2 d (nI (s (oN m k d)))) ⟨MB_set hI.1 (by omega), fun i hi => by
      by_cases e : i = d
      · subst e
        exact pk_us
      · show upd z.2 d _ i = _
        rw [pk_un e]
        exact hI.2 i (by omega)⟩
    rw [← hsh _ h2] at key
    rw [e4, nI_1, show (nI (sel (oS m k d).1 ((oS m k d).2 / fac (m - d - 1)) m)).toNatClampNeg = oN m k d from e3]
    exact key
-- the first of the shortest
def FM (c : Nat → Nat) (k j : Nat) : Prop := j < k ∧ (∀ i, i < k → c j ≤ c i) ∧ ∀ i, i < j → c j < c i
theorem FM_u {c : Nat → Nat} {k i j : Nat} (h : FM c k i) (g : FM c k j) : i = j := by
  obtain ⟨h1, h2, h3⟩ := h
  obtain ⟨g1, g2, g3⟩ := g
  rcases Nat.lt_trichotomy i j with q | q | q
  · have := g3 i q
    have := h2 j g1
    omega
  · exact q
  · have := h3 j q
    have := g2 i h1
    omega
def cst (P : Nat → Nat) (n m fr k : Nat) : Nat := cC P n fr (oN m k) m
theorem cst_le {P : Nat → Nat} {n m fr k : Nat} (hm : m ≤ 6) (hn : n ≤ 24) (hfr : 0 < m → fr < n) (hP : ∀ i, i < m → P i < n) (hk : k < fac m) : cst P n m fr k ≤ 144 := by
  unfold cst
  by_cases z : m = 0
  · subst z
    exact Nat.zero_le _
  · have := cC_lt (o := oN m k) hn (hfr (by omega)) hP (fun i hi => oN_lt hk hi) (k := m) (Nat.le_refl m)
    omega
theorem e_bestM {n m fr : Nat} {P s : Nat → Nat} {pl sh mt : Nat → Int32} {K : Int32 → Int32 → Int32 → (Nat → Int32) → Prop} (hm : m ≤ 6) (hn : n ≤ 24) (hfr : 0 < m → fr < n) (hs : ∀ i, i < m → s i < n) (hP : ∀ i, i < m → P i < n ∧ pl (s i) = nI (P i)) (hsh : ∀ i, i < m → sh i = nI (s i))
    (h : ∀ j x mt', FM (cst P n m fr) (fac m) j → K (nI j) (nI (cst P n m fr j)) x mt') : ∃ m', p_M_plan_L100 (nI (fac m)) (nI n) (nI fr) (nI m) pl sh K m' (0 : Int32) (1000000 : Int32) (0 : Int32) mt := by
  have hfl := fac_le m (by omega)
  have hfp := fac_pos m
  refine pk_loop (fun m' k (z : Int32 × Int32 × (Nat → Int32)) => p_M_plan_L100 (nI (fac m)) (nI n) (nI fr) (nI m) pl sh K m' z.1 z.2.1 (nI k) z.2.2) (fun k z => (k = 0 ∧ z.1 = 0 ∧ z.2.1 = 1000000) ∨ ∃ j, FM (cst P n m fr) k j ∧ z.1 = nI j ∧ z.2.1 = nI (cst P n m fr j)) (fac m) 0 (0, 1000000, mt) (Nat.zero_le _) (Or.inl ⟨rfl, rfl, rfl⟩) ?_ ?_
  · intro m' z hI
    refine ⟨fun _ => ?_, fun c => absurd (nI_le (Nat.le_refl (fac m)) (by omega)) c⟩
    rcases hI with ⟨q, _⟩ | ⟨j, hj, e1, e2⟩
    · omega
    · rw [e1, e2]
      exact h _ _ _ hj
  · intro m' k z hk hI hr
    have hc := cst_le hm hn hfr (fun i hi => (hP i hi).1) hk
    refine ⟨fun c => absurd c (nI_ge hk (by omega)), fun _ => e_theOrder hm hk hsh (fun mt' ht => e_turnsOf (o := oN m k) (by omega) hn hfr hs hP (fun i hi => oN_lt hk hi) ht ?_)⟩
    rw [nI_1]
    refine ⟨fun c => ?_, fun c => e_turnsOf (o := oN m k) (by omega) hn hfr hs hP (fun i hi => oN_lt hk hi) ht ?_⟩
    · rcases hI with ⟨q, e1, e2⟩ | ⟨j, ⟨h1, h2, h3⟩, e1, e2⟩
      · rw [e2] at c
        exact absurd c (nI_ge (b := 1000000) (show cst P n m fr k < 1000000 by omega) (by decide))
      · rw [e2] at c
        have hcj := cst_le hm hn hfr (fun i hi => (hP i hi).1) (show j < fac m by omega)
        have c3 := (nI_leI (a := cst P n m fr j) (b := cst P n m fr k) (by omega) (by omega)).mp c
        exact hr (z.1, z.2.1, mt') (Or.inr ⟨j, ⟨by omega, lt_s h2 c3, h3⟩, e1, e2⟩)
    · refine hr (nI k, nI (cst P n m fr k), mt') (Or.inr ⟨k, ⟨by omega, ?_, ?_⟩, rfl, rfl⟩)
      · refine lt_s (fun i hi => ?_) (Nat.le_refl _)
        rcases hI with ⟨q, e1, e2⟩ | ⟨j, ⟨h1, h2, h3⟩, e1, e2⟩
        · omega
        · rw [e2] at c
          have hcj := cst_le hm hn hfr (fun i hi => (hP i hi).1) (show j < fac m by omega)
          have c3 : ¬ cst P n m fr j ≤ cst P n m fr k := fun z => c ((nI_leI (a := cst P n m fr j) (b := cst P n m fr k) (by omega) (by omega)).mpr z)
          have := h2 i hi
          omega
      · intro i hi
        rcases hI with ⟨q, e1, e2⟩ | ⟨j, ⟨h1, h2, h3⟩, e1, e2⟩
        · omega
        · rw [e2] at c
          have hcj := cst_le hm hn hfr (fun i hi => (hP i hi).1) (show j < fac m by omega)
          have c3 : ¬ cst P n m fr j ≤ cst P n m fr k := fun z => c ((nI_leI (a := cst P n m fr j) (b := cst P n m fr k) (by omega) (by omega)).mpr z)
          have := h2 i hi
          omega
-- the class's search
def DI (c : Nat → Nat) (m k : Nat) (few : Int32) (be : Nat → Int32) : Prop := (k = 0 ∧ few = 216) ∨ ∃ j, FM c k j ∧ few = nI (c j) ∧ ∀ i, i < m → be i = nI (oN m j i)
theorem DI_prune {c : Nat → Nat} {m k0 N t : Nat} {few : Int32} {be : Nat → Int32} (hD : DI c m k0 few be) (ht : t < 216) (h : ¬ nI t < few) (hN : ∀ k, k0 ≤ k → k < k0 + N → t ≤ c k) (hb : ∀ j, j < k0 → c j < 2 ^ 31) : DI c m (k0 + N) few be := by
  rcases hD with ⟨_, rfl⟩ | ⟨j, ⟨h1, h2, h3⟩, rfl, h4⟩
  · exact absurd (nI_lt (b := 216) ht (by decide)) h
  · have hj : c j ≤ t := Nat.le_of_not_lt (fun q => h (nI_lt q (hb j h1)))
    refine Or.inr ⟨j, ⟨by omega, fun i hi => ?_, h3⟩, rfl, h4⟩
    by_cases q : i < k0
    · exact h2 i q
    · have := hN i (by omega) hi
      omega
theorem DI_leaf {c : Nat → Nat} {m k0 t : Nat} {few : Int32} {be be2 : Nat → Int32} (hD : DI c m k0 few be) (ht : t < 216) (h : nI t < few) (hc : c k0 = t) (hb : ∀ j, j < k0 → c j < 2 ^ 31) (hbe : ∀ i, i < m → be2 i = nI (oN m k0 i)) : DI c m (k0 + 1) (nI t) be2 := by
  have key : ∀ i, i < k0 → c k0 < c i := by
    intro i hi
    rcases hD with ⟨q, _⟩ | ⟨j, ⟨h1, h2, h3⟩, rfl, h4⟩
    · omega
    · have := (nI_ltI (by omega) (hb j h1)).mp h
      have := h2 i hi
      omega
  exact Or.inr ⟨k0, ⟨by omega, lt_s (fun i hi => Nat.le_of_lt (key i hi)) (Nat.le_refl _), key⟩, by rw [hc], hbe⟩
theorem cC_mono {P : Nat → Nat} {n fr : Nat} {o : Nat → Nat} {i : Nat} : ∀ {j : Nat}, i ≤ j → cC P n fr o i ≤ cC P n fr o j
  | 0, h => by
    have : i = 0 := by omega
    subst this
    exact Nat.le_refl _
  | j + 1, h => by
    by_cases e : i = j + 1
    · subst e
      exact Nat.le_refl _
    · have := cC_mono (P := P) (n := n) (fr := fr) (o := o) (i := i) (j := j) (by omega)
      simp only [cC]
      omega
theorem dfs {n m fr : Nat} {P : Nat → Nat} {sh sp : Nat → Int32} {ex : Int32} (hm : m ≤ 6) (hn : n ≤ 24) (hfr : 0 < m → fr < n) (hP : ∀ i, i < m → P i < n) (hsp : ∀ i, i < m → sp i = nI (P i)) :
    ∀ (r d e k0 a t : Nat) (T : Nat → Bool) (few : Int32) (tk tr be : Nat → Int32) (post : Int32 → (Nat → Int32) → (Nat → Int32) → (Nat → Int32) → Prop),
    e + r = m → r < d → k0 + fac r ≤ fac m → un T m = r →
    (∀ k, k0 ≤ k → k < k0 + fac r → oS m k e = (T, k - k0) ∧ (∀ i, i < e → tr i = nI (oN m k i)) ∧ cA P fr (oN m k) e = a ∧ cC P n fr (oN m k) e = t) →
    (∀ i, i < m → tk i = if T i = true then 1 else 0) →
    DI (cst P n m fr) m k0 few be →
    (∀ few' tk' tr' be', DI (cst P n m fr) m (k0 + fac r) few' be' → (∀ i, i < m → tk' i = if T i = true then 1 else 0) → (∀ i, i < e → tr' i = tr i) → post few' tk' tr' be') →
    p_P_tryAll d (nI e) (nI a) (nI t) (nI n) (nI m) few ex sh sp tk tr be post := by
  intro r
  induction r with
  | zero =>
    intro d e k0 a t T few tk tr be post he hd hk hu hB htk hD hp
    obtain ⟨d, rfl⟩ : ∃ q, d = q + 1 := ⟨d - 1, by omega⟩
    have he' : e = m := by omega
    rw [he'] at hB hp ⊢
    have hf0 : fac 0 = 1 := rfl
    obtain ⟨hS, htr, hA, hC⟩ := hB k0 (Nat.le_refl _) (by omega)
    have hc : cst P n m fr k0 = t := hC
    have hk0 : k0 < fac m := by omega
    have ht := cst_le hm hn hfr hP hk0
    have hb : ∀ j, j < k0 → cst P n m fr j < 2 ^ 31 := fun j hj => by
      have := cst_le hm hn hfr hP (show j < fac m by omega)
      omega
    have em : (nI m).toNatClampNeg = m := nI_clamp (by omega)
    refine And.intro (fun c => And.intro (fun c2 => ?_) (fun _ => ?_)) (fun c => ?_)
    · have := (nI_ltI (by omega) (by omega)).mp c2
      omega
    · rw [em, show ((0 : Int32)).toNatClampNeg = 0 from rfl]
      refine ⟨by decide, by decide, nI_pos (by omega), by omega, by omega, hp _ _ _ _ (DI_leaf hD (by omega) c hc hb (fun i hi => ?_)) htk (fun _ _ => rfl)⟩
      rw [pk_cpy_in (Nat.zero_le i) (by omega), Nat.zero_add, Nat.sub_zero]
      exact htr i hi
    · refine hp _ _ _ _ (DI_prune hD (by omega) c (fun k h1 h2 => ?_) hb) htk (fun _ _ => rfl)
      have : k = k0 := by omega
      rw [this, hc]
      exact Nat.le_refl t
  | succ r ih =>
    intro d e k0 a t T few tk tr be post he hd hk hu hB htk hD hp
    obtain ⟨d, rfl⟩ : ∃ q, d = q + 1 := ⟨d - 1, by omega⟩
    have hfr1 : fac (r + 1) = (r + 1) * fac r := rfl
    have hfp := fac_pos r
    have hfp1 := fac_pos (r + 1)
    obtain ⟨hS0, htr0, hA0, hC0⟩ := hB k0 (Nat.le_refl _) (by omega)
    have hk0 : k0 < fac m := by omega
    have hfrn := hfr (by omega)
    have ha : a < n := by
      rw [← hA0]
      exact cA_lt hfrn hP (fun i hi => oN_lt hk0 hi) (by omega)
    have ht : t ≤ 24 * e := by
      rw [← hC0]
      exact cC_lt hn hfrn hP (fun i hi => oN_lt hk0 hi) (by omega)
    have hb : ∀ j, j < k0 → cst P n m fr j < 2 ^ 31 := fun j hj => by
      have := cst_le hm hn hfr hP (show j < fac m by omega)
      omega
    refine And.intro (fun c => And.intro (fun _ => ?_) (fun c2 => absurd (nI_lt (show e < m by omega) (by omega)) c2)) (fun c => ?_)
    · refine pk_loop (fun m' i (z : Int32 × (Nat → Int32) × (Nat → Int32) × (Nat → Int32)) => p_P_tryAll_L43 (nI e) (nI a) (nI t) (nI n) (nI m) ex sh sp (p_P_tryAll d) (fun _ k35 k36 k37 k38 => post k35 k36 k37 k38) m' (nI i) z.1 z.2.1 z.2.2.1 z.2.2.2)
        (fun i z => DI (cst P n m fr) m (k0 + un T i * fac r) z.1 z.2.2.2 ∧ (∀ j, j < m → z.2.1 j = if T j = true then 1 else 0) ∧ (∀ j, j < e → z.2.2.1 j = tr j)) m 0 (few, tk, tr, be) (Nat.zero_le _) ⟨?_, htk, fun _ _ => rfl⟩ ?_ ?_
      · rw [show un T 0 = 0 from rfl, Nat.zero_mul]
        exact hD
      · intro m' z hI
        obtain ⟨h1, h2, h3⟩ := hI
        rw [hu] at h1
        exact ⟨fun _ => hp _ _ _ _ h1 h2 h3, fun c => absurd (nI_le (Nat.le_refl m) (by omega)) c⟩
      · intro m' i z hi hI hr
        have e2 : (nI i).toNatClampNeg = i := nI_clamp (by omega)
        have e3 : (nI e).toNatClampNeg = e := nI_clamp (by omega)
        refine ⟨fun c => absurd c (nI_ge hi (by omega)), fun _ => ⟨vp_in_nI (show i < 8 by omega) (by decide), ?_⟩⟩
        rw [e2, hI.2.1 i hi, nI_1 i]
        refine ⟨fun c2 => hr z ⟨?_, hI.2.1, hI.2.2⟩, fun c2 => ?_⟩
        · rw [un_t (if10 c2)]
          exact hI.1
        · have hT := if00 c2
          have hui : un T i + 1 ≤ r + 1 := by
            have h1 := un_f hT
            have h2 := un_mono T (show i + 1 ≤ m by omega)
            omega
          have hmul : un T i * fac r + fac r ≤ fac (r + 1) := by
            have := Nat.mul_le_mul_right (fac r) hui
            rw [Nat.add_mul, Nat.one_mul] at this
            omega
          refine ⟨vp_in_nI (show i < 8 by omega) (by decide), vp_in_nI (show e < 8 by omega) (by decide), vp_in_nI (show i < 8 by omega) (by decide), vp_in_nI (show i < 8 by omega) (by decide), ?_⟩
          rw [e3, hsp i hi]
          refine e_distC ha (hP i hi) hn ?_
          rw [nI_1 e, nI_add, isB_n1, isB_n0]
          refine ih d (e + 1) (k0 + un T i * fac r) (P i) (t + dN n a (P i)) (fun j => j == i || T j) z.1 _ _ z.2.2.2 _ (by omega) (by omega) (by omega) ?_ ?_ (upT hI.2.1) hI.1 ?_
          · have := un_add hT hi
            omega
          · intro k h1 h2
            obtain ⟨hS, htr, hA, hC⟩ := hB k (by omega) (by omega)
            have hq : (k - k0) / fac r = un T i := by
              refine Nat.div_eq_of_lt_le (by omega) ?_
              rw [Nat.add_mul, Nat.one_mul]
              omega
            have hq2 : (k - k0) % fac r = k - (k0 + un T i * fac r) := by
              have := Nat.div_add_mod (k - k0) (fac r)
              rw [hq, Nat.mul_comm] at this
              omega
            have hr1 : m - e - 1 = r := by omega
            have hN : oN m k e = i := by
              unfold oN
              rw [hS, hr1]
              show sel T ((k - k0) / fac r) m = i
              rw [hq]
              exact sel_e rfl hT hi
            refine ⟨?_, ?_, ?_, ?_⟩
            · rw [oS_s, hN, hS, hr1]
              show ((fun j => j == i || T j), (k - k0) % fac r) = _
              rw [hq2]
            · intro i' hi'
              by_cases q : i' = e
              · rw [q, pk_us, hN]
              · rw [pk_un q, hI.2.2 i' (by omega)]
                exact htr i' (by omega)
            · show P (oN m k e) = P i
              rw [hN]
            · show cC P n fr (oN m k) e + dN n (cA P fr (oN m k) e) (P (oN m k e)) = _
              rw [hC, hA, hN]
          · intro few' tk' tr' be' hD' ht' htr'
            refine ⟨vp_in_nI (show i < 8 by omega) (by decide), hr (few', upd tk' i 0, tr', be') ⟨?_, ?_, ?_⟩⟩
            · have : k0 + un T (i + 1) * fac r = k0 + un T i * fac r + fac r := by
                rw [un_f hT, Nat.add_mul, Nat.one_mul]
                omega
              rw [this]
              exact hD'
            · intro j hj
              show upd tk' i 0 j = _
              by_cases q : j = i
              · subst q
                rw [pk_us, hT]
                rfl
              · have q2 : (j == i) = false := by simp; exact q
                have := ht' j hj
                rw [q2, Bool.false_or] at this
                rw [pk_un q, this]
            · intro j hj
              have h1 := htr' j (by omega)
              rw [pk_un (show j ≠ e by omega)] at h1
              exact h1.trans (hI.2.2 j hj)
    · refine hp _ _ _ _ (DI_prune hD (by omega) c (fun k h1 h2 => ?_) hb) htk (fun _ _ => rfl)
      obtain ⟨hS, htr, hA, hC⟩ := hB k h1 h2
      rw [← hC]
      exact cC_mono (by omega)
theorem e_allC {n m fr : Nat} {P : Nat → Nat} {sh sp tk tr be : Nat → Int32} {ex : Int32} {post : Int32 → (Nat → Int32) → (Nat → Int32) → (Nat → Int32) → Prop} (hm : m ≤ 6) (hn : n ≤ 24) (hfr : 0 < m → fr < n) (hP : ∀ i, i < m → P i < n) (hsp : ∀ i, i < m → sp i = nI (P i)) (htk : ∀ i, i < m → tk i = 0)
    (h : ∀ j tk' tr' be', FM (cst P n m fr) (fac m) j → (∀ i, i < m → be' i = nI (oN m j i)) → post (nI (cst P n m fr j)) tk' tr' be') : p_P_tryAll 8 (0 : Int32) (nI fr) (0 : Int32) (nI n) (nI m) (216 : Int32) ex sh sp tk tr be post := by
  refine dfs hm hn hfr hP hsp m 8 0 0 fr 0 (fun _ => false) 216 tk tr be post (by omega) (by omega) (by omega) (cS_all (fun _ _ => rfl)) (fun k _ _ => ⟨rfl, fun i hi => absurd hi (Nat.not_lt_zero i), rfl, rfl⟩) (fun i hi => htk i hi) (Or.inl ⟨rfl, rfl⟩) ?_
  intro few' tk' tr' be' hD _ _
  have hfp := fac_pos m
  rw [Nat.zero_add] at hD
  rcases hD with ⟨q, _⟩ | ⟨j, hj, rfl, hb⟩
  · omega
  · exact h _ _ _ _ hj hb
