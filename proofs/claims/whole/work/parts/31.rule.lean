/-! PURE: the way by rule, both sides; masks -/
theorem bit9 : ∀ M, M < 256 → ∀ i, i < 8 → ((nI M >>> (nI i &&& 31)) &&& (1 : Int32)) = if M.testBit i = true then 1 else 0 := by decide +kernel
theorem bit8 : ∀ M, M < 256 → ∀ i, i < 8 → nI M ||| ((1 : Int32) <<< (nI i &&& 31)) = nI (M ||| (1 <<< i)) ∧ (M ||| (1 <<< i)) < 256 := by decide +kernel
theorem bit7 : ∀ M, M < 256 → ∀ i, i < 8 → ∀ j, j < 8 → (M ||| (1 <<< i)).testBit j = (j == i || M.testBit j) := by decide +kernel
def MB (x : Int32) (T : Nat → Bool) : Prop := ∃ M, M < 256 ∧ x = nI M ∧ ∀ j, j < 8 → T j = M.testBit j
theorem MB_get {x : Int32} {T : Nat → Bool} {i : Nat} (h : MB x T) (hi : i < 8) : ((x >>> (nI i &&& 31)) &&& (1 : Int32)) = if T i = true then 1 else 0 := by
  obtain ⟨M, hM, rfl, ht⟩ := h
  rw [ht i hi]
  exact bit9 M hM i hi
theorem MB_set {x : Int32} {T : Nat → Bool} {i : Nat} (h : MB x T) (hi : i < 8) : MB (x ||| ((1 : Int32) <<< (nI i &&& 31))) (fun j => j == i || T j) := by
  obtain ⟨M, hM, rfl, ht⟩ := h
  obtain ⟨a, b⟩ := bit8 M hM i hi
  refine ⟨_, b, a, fun j hj => ?_⟩
  show (j == i || T j) = _
  rw [bit7 M hM i hi j hj, ht j hj]
theorem MB_0 : MB 0 (fun _ => false) := ⟨0, by decide, rfl, fun j _ => (Nat.zero_testBit j).symm⟩
theorem if10 {b : Bool} (h : ¬ (if b = true then (1 : Int32) else 0) = 0) : b = true := by
  cases b with
  | true => rfl
  | false => exact absurd rfl h
theorem if00 {b : Bool} (h : (if b = true then (1 : Int32) else 0) = 0) : b = false := by
  cases b with
  | false => rfl
  | true => exact absurd h one_ne
theorem cS_all {T : Nat → Bool} : ∀ {m : Nat}, (∀ j, j < m → T j = true) → cS T m = m
  | 0, _ => rfl
  | m + 1, h => by rw [cS_t (h m (by omega)), cS_all (fun j hj => h j (by omega))]
theorem cS_add {T : Nat → Bool} {b : Nat} (hb : T b = false) : ∀ {m : Nat}, b < m → cS (fun j => j == b || T j) m = cS T m + 1
  | 0, h => absurd h (Nat.not_lt_zero b)
  | m + 1, h => by
    by_cases e : b = m
    · subst e
      rw [cS_f hb, cS_t (h := fun j => j == b || T j) (by simp)]
      rw [cS_same (h2 := T) (fun k hk => by
        have : (k == b) = false := by simp; omega
        rw [this, Bool.false_or])]
    · have ih := cS_add hb (m := m) (by omega)
      have e2 : (m == b) = false := by simp; omega
      cases hh : T m with
      | true => rw [cS_t hh, cS_t (h := fun j => j == b || T j) (by simp [hh]), ih]
      | false => rw [cS_f hh, cS_f (h := fun j => j == b || T j) (by simp only [e2, hh]; rfl), ih]
-- the nearest
def nr (d : Nat → Nat) (T : Nat → Bool) : Nat → Option Nat
  | 0 => none
  | i + 1 => if T i = true then nr d T i else match nr d T i with
    | none => some i
    | some b => if d b ≤ d i then some b else some i
theorem nr_t {d : Nat → Nat} {T : Nat → Bool} {i : Nat} (h : T i = true) : nr d T (i + 1) = nr d T i := by simp only [nr]; rw [if_pos h]
theorem nr_n {d : Nat → Nat} {T : Nat → Bool} {i : Nat} (h : T i = false) (q : nr d T i = none) : nr d T (i + 1) = some i := by simp only [nr]; rw [if_neg (by rw [h]; decide), q]
theorem nr_le {d : Nat → Nat} {T : Nat → Bool} {i b : Nat} (h : T i = false) (q : nr d T i = some b) (c : d b ≤ d i) : nr d T (i + 1) = some b := by simp only [nr]; rw [if_neg (by rw [h]; decide), q]; exact if_pos c
theorem nr_gt {d : Nat → Nat} {T : Nat → Bool} {i b : Nat} (h : T i = false) (q : nr d T i = some b) (c : ¬ d b ≤ d i) : nr d T (i + 1) = some i := by simp only [nr]; rw [if_neg (by rw [h]; decide), q]; exact if_neg c
theorem nr_some {d : Nat → Nat} {T : Nat → Bool} {b : Nat} : ∀ {i : Nat}, nr d T i = some b → b < i ∧ T b = false
  | 0, h => by simp [nr] at h
  | i + 1, h => by
    cases hh : T i with
    | true =>
      rw [nr_t hh] at h
      obtain ⟨a, c⟩ := nr_some h
      exact ⟨by omega, c⟩
    | false =>
      cases q : nr d T i with
      | none =>
        rw [nr_n hh q] at h
        injection h with h
        subst h
        exact ⟨by omega, hh⟩
      | some b2 =>
        by_cases c : d b2 ≤ d i
        · rw [nr_le hh q c] at h
          injection h with h
          subst h
          obtain ⟨a, c⟩ := nr_some q
          exact ⟨by omega, c⟩
        · rw [nr_gt hh q c] at h
          injection h with h
          subst h
          exact ⟨by omega, hh⟩
theorem nr_none {d : Nat → Nat} {T : Nat → Bool} : ∀ {i : Nat}, nr d T i = none → ∀ j, j < i → T j = true
  | 0, _ => fun j hj => absurd hj (Nat.not_lt_zero j)
  | i + 1, h => by
    cases hh : T i with
    | true =>
      rw [nr_t hh] at h
      exact lt_s (nr_none h) hh
    | false =>
      cases q : nr d T i with
      | none =>
        rw [nr_n hh q] at h
        cases h
      | some b2 =>
        by_cases c : d b2 ≤ d i
        · rw [nr_le hh q c] at h
          cases h
        · rw [nr_gt hh q c] at h
          cases h
def rv : Option Nat → Int32
  | none => -1
  | some b => nI b
def rd (d : Nat → Nat) : Option Nat → Int32
  | none => 216
  | some b => nI (d b)
theorem dN_le {n a b : Nat} (ha : a < n) (hb : b < n) : dN n a b < n := by
  unfold dN
  by_cases h : b ≤ a
  · simp only [if_pos h]
    split <;> omega
  · simp only [if_neg h]
    split <;> omega
theorem e_nearC {a n m : Nat} {P : Nat → Nat} {T : Nat → Bool} {sp tk : Nat → Int32} {post : Int32 → Prop} (hm : m ≤ 8) (hn : n ≤ 24) (ha : a < n) (hP : ∀ i, i < m → P i < n) (hsp : ∀ i, i < m → sp i = nI (P i)) (htk : ∀ i, i < m → tk i = if T i = true then 1 else 0)
    (h : post (rv (nr (fun i => dN n a (P i)) T m))) : p_P_nearest (nI a) (nI n) (nI m) sp tk post := by
  refine pk_loop (fun m' i (_ : Unit) => p_P_nearest_L9 (nI a) (nI n) (nI m) sp tk (fun k _ _ => post k) m' (rv (nr (fun i => dN n a (P i)) T i)) (rd (fun i => dN n a (P i)) (nr (fun i => dN n a (P i)) T i)) (nI i)) (fun _ _ => True) m 0 () (Nat.zero_le _) trivial ?_ ?_
  · intro m' s _
    exact ⟨fun _ => h, fun c => absurd (nI_le (Nat.le_refl m) (by omega)) c⟩
  · intro m' i s hi _ hr
    have hr' := hr () trivial
    have e2 : (nI i).toNatClampNeg = i := nI_clamp (by omega)
    have hd := dN_le ha (hP i hi)
    refine ⟨fun c => absurd c (nI_ge hi (by omega)), fun _ => ⟨vp_in_nI (show i < 8 by omega) (by decide), ?_⟩⟩
    rw [e2, hsp i hi]
    refine e_distC ha (hP i hi) hn ⟨vp_in_nI (show i < 8 by omega) (by decide), ?_⟩
    rw [nI_1, htk i hi]
    refine ⟨fun c => ?_, fun c => ?_⟩
    · rw [nr_t (if10 c)] at hr'
      exact hr'
    · have hT := if00 c
      cases q : nr (fun i => dN n a (P i)) T i with
      | none =>
        rw [nr_n hT q] at hr'
        exact ⟨fun c2 => absurd c2 (nI_ge (b := 216) (by omega) (by decide)), fun _ => hr'⟩
      | some b =>
        obtain ⟨hb, _⟩ := nr_some q
        have hdb := dN_le ha (hP b (by omega))
        refine ⟨fun c2 => ?_, fun c2 => ?_⟩
        · have c3 := (nI_leI (a := dN n a (P b)) (b := dN n a (P i)) (by omega) (by omega)).mp c2
          rw [nr_le hT q c3] at hr'
          exact hr'
        · have c3 : ¬ dN n a (P b) ≤ dN n a (P i) := fun z => c2 ((nI_leI (a := dN n a (P b)) (b := dN n a (P i)) (by omega) (by omega)).mpr z)
          rw [nr_gt hT q c3] at hr'
          exact hr'
theorem e_nearM {x : Int32} {a n m : Nat} {P s : Nat → Nat} {T : Nat → Bool} {pl sh : Nat → Int32} {K : Int32 → Int32 → Prop} (hm : m ≤ 8) (hn : n ≤ 24) (ha : a < n) (hs : ∀ i, i < m → s i < n) (hP : ∀ i, i < m → P i < n ∧ pl (s i) = nI (P i)) (hsh : ∀ i, i < m → sh i = nI (s i)) (hx : MB x T)
    (h : ∀ y, K (rv (nr (fun i => dN n a (P i)) T m)) y) : ∃ m', p_M_byRule_L23 (nI a) x (nI n) (nI m) pl sh K m' (-1 : Int32) (0 : Int32) := by
  refine pk_loop (fun m' i (_ : Unit) => p_M_byRule_L23 (nI a) x (nI n) (nI m) pl sh K m' (rv (nr (fun i => dN n a (P i)) T i)) (nI i)) (fun _ _ => True) m 0 () (Nat.zero_le _) trivial ?_ ?_
  · intro m' s _
    exact ⟨fun _ => h _, fun c => absurd (nI_le (Nat.le_refl m) (by omega)) c⟩
  · intro m' i _ hi _ hr
    have hr' := hr () trivial
    have e2 : (nI i).toNatClampNeg = i := nI_clamp (by omega)
    have hd := dN_le ha (hP i hi).1
    refine ⟨fun c => absurd c (nI_ge hi (by omega)), fun _ => ?_⟩
    rw [nI_1, MB_get hx (show i < 8 by omega)]
    refine ⟨fun c => ?_, fun c => ?_⟩
    · rw [nr_t (if10 c)] at hr'
      exact hr'
    · have hT := if00 c
      cases q : nr (fun i => dN n a (P i)) T i with
      | none =>
        rw [nr_n hT q] at hr'
        exact ⟨fun _ => hr', fun c2 => absurd m1_neg c2⟩
      | some b =>
        obtain ⟨hb, _⟩ := nr_some q
        have hdb := dN_le ha (hP b (by omega)).1
        have e3 : (nI b).toNatClampNeg = b := nI_clamp (by omega)
        have e4 : (nI (s i)).toNatClampNeg = s i := nI_clamp (by have := hs i hi; omega)
        have e5 : (nI (s b)).toNatClampNeg = s b := nI_clamp (by have := hs b (by omega); omega)
        have hsi := hs i hi
        have hsb := hs b (by omega)
        refine ⟨fun c2 => absurd c2 (nI_pos (show b < 2 ^ 31 by omega)), fun _ => ⟨vp_in_nI (show i < 8 by omega) (by decide), ?_⟩⟩
        rw [e2, hsh i hi, e4, (hP i hi).2]
        refine ⟨vp_in_nI (show s i < 24 by omega) (by decide), e_distM ha (hP i hi).1 hn ⟨vp_in_nI (show b < 8 by omega) (by decide), ?_⟩⟩
        show vp_in (sh (nI b).toNatClampNeg) 24 ∧ _
        rw [show rv (some b) = nI b from rfl, e3, hsh b (by omega), e5, (hP b (by omega)).2]
        refine ⟨vp_in_nI (show s b < 24 by omega) (by decide), e_distM ha (hP b (by omega)).1 hn ⟨fun c2 => ?_, fun c2 => ?_⟩⟩
        · have c3 := (nI_leI (by omega) (by omega)).mp c2
          rw [nr_le hT q c3] at hr'
          exact hr'
        · have c3 : ¬ dN n a (P b) ≤ dN n a (P i) := fun z => c2 ((nI_leI (by omega) (by omega)).mpr z)
          rw [nr_gt hT q c3] at hr'
          exact hr'
-- the way by rule
def rS (P : Nat → Nat) (n m fr : Nat) : Nat → (Nat → Bool) × Nat × Nat
  | 0 => (fun _ => false, fr, 0)
  | k + 1 => (fun j => j == (nr (fun i => dN n (rS P n m fr k).2.1 (P i)) (rS P n m fr k).1 m).getD 0 || (rS P n m fr k).1 j, P ((nr (fun i => dN n (rS P n m fr k).2.1 (P i)) (rS P n m fr k).1 m).getD 0), (rS P n m fr k).2.2 + dN n (rS P n m fr k).2.1 (P ((nr (fun i => dN n (rS P n m fr k).2.1 (P i)) (rS P n m fr k).1 m).getD 0)))
def rN (P : Nat → Nat) (n m fr k : Nat) : Nat := (nr (fun i => dN n (rS P n m fr k).2.1 (P i)) (rS P n m fr k).1 m).getD 0
theorem rS_s (P : Nat → Nat) (n m fr k : Nat) : rS P n m fr (k + 1) = (fun j => j == rN P n m fr k || (rS P n m fr k).1 j, P (rN P n m fr k), (rS P n m fr k).2.2 + dN n (rS P n m fr k).2.1 (P (rN P n m fr k))) := rfl
theorem rN_ok {P : Nat → Nat} {n m fr k : Nat} (h : cS (rS P n m fr k).1 m = k) (hk : k < m) : nr (fun i => dN n (rS P n m fr k).2.1 (P i)) (rS P n m fr k).1 m = some (rN P n m fr k) ∧ rN P n m fr k < m ∧ (rS P n m fr k).1 (rN P n m fr k) = false := by
  cases q : nr (fun i => dN n (rS P n m fr k).2.1 (P i)) (rS P n m fr k).1 m with
  | none =>
    have := cS_all (nr_none q)
    omega
  | some b =>
    have e : rN P n m fr k = b := by unfold rN; rw [q]; rfl
    obtain ⟨h1, h2⟩ := nr_some q
    rw [e]
    exact ⟨rfl, h1, h2⟩
theorem rS_ok {P : Nat → Nat} {n m fr : Nat} (hfr : fr < n) (hP : ∀ i, i < m → P i < n) : ∀ {k : Nat}, k ≤ m → cS (rS P n m fr k).1 m = k ∧ (rS P n m fr k).2.1 < n
  | 0, _ => by
    refine ⟨?_, hfr⟩
    have : ∀ i, cS (fun _ => false) i = 0 := by
      intro i
      induction i with
      | zero => rfl
      | succ i ih => rw [cS_f rfl]; exact ih
    exact this m
  | k + 1, hk => by
    obtain ⟨a, b⟩ := rS_ok hfr hP (k := k) (by omega)
    obtain ⟨h1, h2, h3⟩ := rN_ok a (by omega)
    rw [rS_s]
    refine ⟨?_, hP _ h2⟩
    show cS (fun j => j == rN P n m fr k || (rS P n m fr k).1 j) m = k + 1
    rw [cS_add h3 h2, a]
theorem upT {T : Nat → Bool} {tk : Nat → Int32} {m b : Nat} (h : ∀ i, i < m → tk i = if T i = true then 1 else 0) : ∀ i, i < m → upd tk b 1 i = if (i == b || T i) = true then 1 else 0 := by
  intro i hi
  by_cases e : i = b
  · subst e
    rw [pk_us]
    simp
  · rw [pk_un e, h i hi]
    have : (i == b) = false := by simp; exact e
    rw [this, Bool.false_or]
theorem e_ruleC {n m fr : Nat} {P : Nat → Nat} {sp tk be : Nat → Int32} {post : Int32 → (Nat → Int32) → (Nat → Int32) → Prop} (hm : m ≤ 8) (hn : n ≤ 24) (hfr : fr < n) (hP : ∀ i, i < m → P i < n) (hsp : ∀ i, i < m → sp i = nI (P i)) (htk : ∀ i, i < m → tk i = 0)
    (h : ∀ tk' be', (∀ i, i < m → be' i = nI (rN P n m fr i)) → post (nI (rS P n m fr m).2.2) tk' be') : p_P_followRule (nI fr) (nI n) (nI m) sp tk be post := by
  refine pk_loop (fun m' k (s : (Nat → Int32) × (Nat → Int32)) => p_P_followRule_L9 (nI n) (nI m) sp post (fun _ _ k24 k25 k26 => post k24 k25 k26) m' (nI (rS P n m fr k).2.1) (nI k) (nI (rS P n m fr k).2.2) s.1 s.2) (fun k s => (∀ i, i < m → s.1 i = if (rS P n m fr k).1 i = true then 1 else 0) ∧ ∀ i, i < k → s.2 i = nI (rN P n m fr i)) m 0 (tk, be) (Nat.zero_le _) ⟨fun i hi => htk i hi, fun i hi => absurd hi (Nat.not_lt_zero i)⟩ ?_ ?_
  · intro m' s hI
    exact ⟨fun _ => h _ _ hI.2, fun c => absurd (nI_le (Nat.le_refl m) (by omega)) c⟩
  · intro m' k s hk hI hr
    obtain ⟨a, b⟩ := rS_ok hfr hP (k := k) (by omega)
    obtain ⟨h1, h2, h3⟩ := rN_ok a hk
    refine ⟨fun c => absurd c (nI_ge hk (by omega)), fun _ => e_nearC hm hn b hP hsp hI.1 ?_⟩
    rw [h1]
    show (¬ nI (rN P n m fr k) = -1 → _) ∧ (nI (rN P n m fr k) = -1 → _)
    refine ⟨fun _ => ⟨vp_in_nI (show _ < 8 by omega) (by decide), vp_in_nI (show k < 8 by omega) (by decide), vp_in_nI (show _ < 8 by omega) (by decide), ?_⟩, fun c => absurd c (nI_ne_m1 (by omega))⟩
    have e3 : (nI (rN P n m fr k)).toNatClampNeg = rN P n m fr k := nI_clamp (by omega)
    have e4 : (nI k).toNatClampNeg = k := nI_clamp (by omega)
    show p_C_distance _ (sp (nI (rN P n m fr k)).toNatClampNeg) _ _
    simp only [rv]
    rw [e3, hsp _ h2]
    refine e_distC b (hP _ h2) hn ⟨vp_in_nI (show _ < 8 by omega) (by decide), ?_⟩
    rw [e4, nI_add, nI_1, isB_n1]
    refine hr (upd s.1 (rN P n m fr k) 1, upd s.2 k (nI (rN P n m fr k))) ⟨?_, ?_⟩
    · exact upT hI.1
    · intro i hi
      by_cases e : i = k
      · subst e
        exact pk_us
      · show upd s.2 k _ i = _
        rw [pk_un e]
        exact hI.2 i (by omega)
theorem e_ruleM {n m fr : Nat} {P s : Nat → Nat} {pl sh mt : Nat → Int32} {post : (Nat → Int32) → Prop} (hm : m ≤ 8) (hn : n ≤ 24) (hfr : fr < n) (hs : ∀ i, i < m → s i < n) (hP : ∀ i, i < m → P i < n ∧ pl (s i) = nI (P i)) (hsh : ∀ i, i < m → sh i = nI (s i))
    (h : ∀ mt', (∀ i, i < m → mt' i = nI (s (rN P n m fr i))) → post mt') : p_M_byRule (nI n) (nI fr) (nI m) pl sh mt post := by
  refine pk_loop (fun m' k (z : Int32 × (Nat → Int32)) => p_M_byRule_L9 (nI n) (nI m) pl sh (fun _ _ _ k62 => post k62) m' z.1 (nI (rS P n m fr k).2.1) (nI k) z.2) (fun k z => MB z.1 (rS P n m fr k).1 ∧ ∀ i, i < k → z.2 i = nI (s (rN P n m fr i))) m 0 (0, mt) (Nat.zero_le _) ⟨MB_0, fun i hi => absurd hi (Nat.not_lt_zero i)⟩ ?_ ?_
  · intro m' z hI
    exact ⟨fun _ => h _ hI.2, fun c => absurd (nI_le (Nat.le_refl m) (by omega)) c⟩
  · intro m' k z hk hI hr
    obtain ⟨a, b⟩ := rS_ok hfr (fun i hi => (hP i hi).1) (k := k) (by omega)
    obtain ⟨h1, h2, h3⟩ := rN_ok a hk
    have hs2 := hs _ h2
    have e3 : (nI (rN P n m fr k)).toNatClampNeg = rN P n m fr k := nI_clamp (by omega)
    have e4 : (nI k).toNatClampNeg = k := nI_clamp (by omega)
    have e5 : (nI (s (rN P n m fr k))).toNatClampNeg = s (rN P n m fr k) := nI_clamp (by omega)
    refine ⟨fun c => absurd c (nI_ge hk (by omega)), fun _ => e_nearM hm hn b hs hP hsh hI.1 (fun _ => ?_)⟩
    rw [h1]
    simp only [rv]
    rw [e3, e4, hsh _ h2, e5, (hP _ h2).2, nI_1]
    refine ⟨vp_in_nI (show _ < 8 by omega) (by decide), vp_in_nI (show k < 8 by omega) (by decide), vp_in_nI (show _ < 8 by omega) (by decide), vp_in_nI (show s (rN P n m fr k) < 24 by omega) (by decide), ?_⟩
    refine hr (z.1 ||| ((1 : Int32) <<< (nI (rN P n m fr k) &&& 31)), upd z.2 k (nI (s (rN P n m fr k)))) ⟨?_, ?_⟩
    · exact MB_set hI.1 (by omega)
    · intro i hi
      by_cases e : i = k
      · subst e
        exact pk_us
      · show upd z.2 k _ i = _
        rw [pk_un e]
        exact hI.2 i (by omega)
-- the turns of a way
def cA (P : Nat → Nat) (fr : Nat) (o : Nat → Nat) : Nat → Nat
  | 0 => fr
  | k + 1 => P (o k)
def cC (P : Nat → Nat) (n fr : Nat) (o : Nat → Nat) : Nat → Nat
  | 0 => 0
  | k + 1 => cC P n fr o k + dN n (cA P fr o k) (P (o k))
theorem cA_lt {P : Nat → Nat} {n m fr : Nat} {o : Nat → Nat} (hfr : fr < n) (hP : ∀ i, i < m → P i < n) (ho : ∀ i, i < m → o i < m) : ∀ {k : Nat}, k ≤ m → cA P fr o k < n
  | 0, _ => hfr
  | k + 1, hk => hP _ (ho k hk)
theorem cC_lt {P : Nat → Nat} {n m fr : Nat} {o : Nat → Nat} (hn : n ≤ 24) (hfr : fr < n) (hP : ∀ i, i < m → P i < n) (ho : ∀ i, i < m → o i < m) : ∀ {k : Nat}, k ≤ m → cC P n fr o k ≤ 24 * k
  | 0, _ => Nat.le_refl 0
  | k + 1, hk => by
    have ih := cC_lt hn hfr hP ho (k := k) (by omega)
    have hd := dN_le (cA_lt hfr hP ho (k := k) (by omega)) (hP _ (ho k hk))
    simp only [cC]
    omega
theorem rS_c {P : Nat → Nat} {n m fr : Nat} : ∀ k, (rS P n m fr k).2.1 = cA P fr (rN P n m fr) k ∧ (rS P n m fr k).2.2 = cC P n fr (rN P n m fr) k
  | 0 => ⟨rfl, rfl⟩
  | k + 1 => by
    obtain ⟨a, b⟩ := rS_c (P := P) (n := n) (m := m) (fr := fr) k
    rw [rS_s]
    refine ⟨rfl, ?_⟩
    simp only [cC]
    rw [a, b]
theorem e_turnsOf {n m fr : Nat} {P s o : Nat → Nat} {pl mt : Nat → Int32} {post : Int32 → Prop} (hm : m ≤ 8) (hn : n ≤ 24) (hfr : 0 < m → fr < n) (hs : ∀ i, i < m → s i < n) (hP : ∀ i, i < m → P i < n ∧ pl (s i) = nI (P i)) (ho : ∀ i, i < m → o i < m) (ht : ∀ i, i < m → mt i = nI (s (o i)))
    (h : post (nI (cC P n fr o m))) : p_M_turnsOf (nI n) (nI fr) (nI m) pl mt post := by
  refine pk_loop (fun m' i (_ : Unit) => p_M_turnsOf_L9 (nI n) (nI m) pl mt (fun _ k17 _ => post k17) m' (nI (cA P fr o i)) (nI (cC P n fr o i)) (nI i)) (fun _ _ => True) m 0 () (Nat.zero_le _) trivial ?_ ?_
  · intro m' s _
    exact ⟨fun _ => h, fun c => absurd (nI_le (Nat.le_refl m) (by omega)) c⟩
  · intro m' i _ hi _ hr
    have hr' := hr () trivial
    have ho2 := ho i hi
    have hs2 := hs _ ho2
    have e2 : (nI i).toNatClampNeg = i := nI_clamp (by omega)
    have e4 : (nI (s (o i))).toNatClampNeg = s (o i) := nI_clamp (by omega)
    refine ⟨fun c => absurd c (nI_ge hi (by omega)), fun _ => ⟨vp_in_nI (show i < 8 by omega) (by decide), ?_⟩⟩
    rw [e2, ht i hi, e4, (hP _ ho2).2]
    refine ⟨vp_in_nI (show s (o i) < 24 by omega) (by decide), e_distM (cA_lt (hfr (by omega)) (fun i hi => (hP i hi).1) ho (Nat.le_of_lt hi)) (hP _ ho2).1 hn ⟨vp_in_nI (show i < 8 by omega) (by decide), vp_in_nI (show s (o i) < 24 by omega) (by decide), ?_⟩⟩
    rw [nI_add, nI_1]
    exact hr'
theorem e_cpyM {m : Nat} {mt mp : Nat → Int32} {K : Int32 → (Nat → Int32) → Prop} (hm : m ≤ 8) (h : ∀ x mp', (∀ i, i < m → mp' i = mt i) → K x mp') : ∃ m', p_M_plan_L151 (nI m) mt K m' (0 : Int32) mp := by
  refine pk_loop (fun m' i (z : Nat → Int32) => p_M_plan_L151 (nI m) mt K m' (nI i) z) (fun i z => ∀ a, a < i → z a = mt a) m 0 mp (Nat.zero_le _) (fun a ha => absurd ha (Nat.not_lt_zero a)) ?_ ?_
  · intro m' z hI
    exact ⟨fun _ => h _ _ hI, fun c => absurd (nI_le (Nat.le_refl m) (by omega)) c⟩
  · intro m' i z hi hI hr
    have e2 : (nI i).toNatClampNeg = i := nI_clamp (by omega)
    refine ⟨fun c => absurd c (nI_ge hi (by omega)), fun _ => ⟨vp_in_nI (show i < 8 by omega) (by decide), vp_in_nI (show i < 8 by omega) (by decide), ?_⟩⟩
    rw [e2, nI_1]
    refine hr _ (fun a ha => ?_)
    by_cases e : a = i
    · subst e
      exact pk_us
    · rw [pk_un e]
      exact hI a (by omega)
