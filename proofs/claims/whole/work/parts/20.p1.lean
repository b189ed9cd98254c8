/-! PURE PART 1: ranges, counts, the small loops of class and reference -/
def oor (x : Int32) (n : Nat) : Prop := x < 0 ∨ nI n ≤ x
theorem rng (x : Int32) {n : Nat} (hn : n < 2 ^ 31) : oor x n ∨ ∃ j : Nat, j < n ∧ x = nI j := by
  rcases pk_ix x hn with h | h | h
  · exact Or.inl (Or.inl h)
  · exact Or.inl (Or.inr h)
  · exact Or.inr h
theorem m1_neg : (-1 : Int32) < 0 := by decide
theorem nI_ne_m1 {k : Nat} (h : k < 2 ^ 31) : ¬ nI k = (-1 : Int32) := fun e => by
  have h1 := nI_pos h
  rw [e] at h1
  exact h1 m1_neg
theorem nlt_of_le {a b : Int32} (h : a ≤ b) : ¬ b < a := Int32.not_lt.mpr h
theorem nI_inj {a b : Nat} (ha : a < 2 ^ 31) (hb : b < 2 ^ 31) (h : nI a = nI b) : a = b := (nI_eq ha hb).mp h
theorem ad0 (x : Int32) : x + (0 : Int32) = x := by simp
theorem one_ne : ¬ (1 : Int32) = 0 := by decide
-- range checks
theorem e_isShelf_o {x : Int32} {n : Nat} {post : Int32 → Prop} (h : oor x n) (hp : post 0) : p_C_isShelf x (nI n) post := by
  rcases h with h | h
  · exact ⟨fun _ => hp, fun c => absurd h c⟩
  · exact ⟨fun _ => hp, fun _ => ⟨fun _ => hp, fun c => absurd h c⟩⟩
theorem e_isShelf_i {j n : Nat} {post : Int32 → Prop} (hj : j < n) (hn : n < 2 ^ 31) (hp : post 1) : p_C_isShelf (nI j) (nI n) post :=
  ⟨fun c => absurd c (nI_pos (by omega)), fun _ => ⟨fun c => absurd c (nI_ge hj hn), fun _ => hp⟩⟩
theorem e_needShelf_o {x : Int32} {n : Nat} {post : Prop} {pex : String → Prop} (h : oor x n) (hp : pex "java/util/NoSuchElementException") : p_C_needShelf x (nI n) post pex :=
  e_isShelf_o h ⟨fun c => absurd rfl c, fun _ => hp⟩
theorem e_needShelf_i {j n : Nat} {post : Prop} {pex : String → Prop} (hj : j < n) (hn : n < 2 ^ 31) (hp : post) : p_C_needShelf (nI j) (nI n) post pex :=
  e_isShelf_i hj hn ⟨fun _ => hp, fun c => absurd c one_ne⟩
theorem e_needUnit_o {x : Int32} {post : Prop} {pex : String → Prop} (h : oor x 20) (hp : pex "java/lang/IllegalArgumentException") : p_C_needUnit x post pex := by
  rcases h with h | h
  · exact ⟨fun _ => hp, fun c => absurd h c⟩
  · exact ⟨fun _ => hp, fun _ => ⟨fun c => absurd c (nlt_of_le h), fun _ => hp⟩⟩
theorem e_needUnit_i {j : Nat} {post : Prop} {pex : String → Prop} (hj : j < 20) (hp : post) : p_C_needUnit (nI j) post pex :=
  ⟨fun c => absurd c (nI_pos (by omega)), fun _ => ⟨fun _ => hp, fun c => absurd (nI_lt hj (by decide)) c⟩⟩
theorem e_needStation_o {x : Int32} {post : Prop} {pex : String → Prop} (h : oor x 2) (hp : pex "java/lang/IllegalArgumentException") : p_C_needStation x post pex := by
  rcases h with h | h
  · exact ⟨fun _ => hp, fun c => absurd h c⟩
  · exact ⟨fun _ => hp, fun _ => ⟨fun c => absurd c (nlt_of_le h), fun _ => hp⟩⟩
theorem e_needStation_i {j : Nat} {post : Prop} {pex : String → Prop} (hj : j < 2) (hp : post) : p_C_needStation (nI j) post pex :=
  ⟨fun c => absurd c (nI_pos (by omega)), fun _ => ⟨fun _ => hp, fun c => absurd (nI_lt hj (by decide)) c⟩⟩
theorem e_none_o {x : Int32} {n : Nat} {post : Int32 → Prop} (h : oor x n) (hp : post 1) : p_M_none x (nI n) post := by
  rcases h with h | h
  · exact ⟨fun _ => hp, fun c => absurd h c⟩
  · exact ⟨fun _ => hp, fun _ => ⟨fun c => absurd c (nlt_of_le h), fun _ => hp⟩⟩
theorem e_none_i {j n : Nat} {post : Int32 → Prop} (hj : j < n) (hn : n < 2 ^ 31) (hp : post 0) : p_M_none (nI j) (nI n) post :=
  ⟨fun c => absurd c (nI_pos (by omega)), fun _ => ⟨fun _ => hp, fun c => absurd (nI_lt hj hn) c⟩⟩
-- counting
def cntN (f : Nat → Int32) (k : Int32) : Nat → Nat
  | 0 => 0
  | i + 1 => cntN f k i + (if f i = k then 1 else 0)
theorem cntN_le (f : Nat → Int32) (k : Int32) : ∀ i, cntN f k i ≤ i
  | 0 => Nat.le_refl 0
  | i + 1 => by
    have := cntN_le f k i
    simp only [cntN]
    split <;> omega
theorem cntN_same {f g : Nat → Int32} {k : Int32} : ∀ {i : Nat}, (∀ j, j < i → (f j = k ↔ g j = k)) → cntN f k i = cntN g k i
  | 0, _ => rfl
  | i + 1, h => by
    simp only [cntN]
    rw [cntN_same (i := i) (fun j hj => h j (by omega))]
    by_cases h1 : f i = k
    · rw [if_pos h1, if_pos ((h i (by omega)).mp h1)]
    · rw [if_neg h1, if_neg (fun c => h1 ((h i (by omega)).mpr c))]
theorem cntN_put {f : Nat → Int32} {k : Int32} {j : Nat} (hj : ¬ f j = k) : ∀ {i : Nat}, j < i → cntN (upd f j k) k i = cntN f k i + 1
  | 0, h => absurd h (Nat.not_lt_zero j)
  | i + 1, h => by
    simp only [cntN]
    by_cases e : j = i
    · subst e
      rw [if_pos pk_us, if_neg hj, cntN_same (g := f) (fun a ha => by rw [pk_un (by omega)])]
    · rw [cntN_put hj (by omega), pk_un (show i ≠ j from fun c => e c.symm)]
      omega
theorem cntN_other {f : Nat → Int32} {k v : Int32} {j : Nat} (hj : ¬ f j = k) (hv : ¬ v = k) (i : Nat) : cntN (upd f j v) k i = cntN f k i :=
  cntN_same (fun a _ => by
    by_cases e : a = j
    · subst e
      rw [pk_us]
      exact ⟨fun c => absurd c hv, fun c => absurd c hj⟩
    · rw [pk_un e])
theorem cntN_drop {f : Nat → Int32} {k v : Int32} {j : Nat} (hv : ¬ v = k) : ∀ i : Nat, cntN (upd f j v) k i ≤ cntN f k i
  | 0 => Nat.le_refl 0
  | i + 1 => by
    have := cntN_drop (f := f) (j := j) hv i
    simp only [cntN]
    by_cases e : i = j
    · subst e
      rw [pk_us, if_neg hv]
      omega
    · rw [pk_un e]
      omega
def sumE (f g : Nat → Int32) (k : Int32) : Nat → Int32
  | 0 => 0
  | i + 1 => if f i = k then sumE f g k i + g i else sumE f g k i
-- the loops that count
theorem e_unitsOn {x : Int32} {f : Nat → Int32} {post : Int32 → Prop} (h : post (nI (cntN f x 20))) : p_C_unitsOn x f post := by
  refine pk_loop (fun n i (s : Int32) => p_C_unitsOn_L4 x f (fun k_6 _ => post k_6) n s (nI i)) (fun i s => s = nI (cntN f x i)) 20 0 0 (by decide) rfl ?_ ?_
  · intro n s hI
    subst hI
    exact ⟨fun _ => h, fun c => absurd (nI_le (Nat.le_refl 20) (by decide)) c⟩
  · intro n i s hi hI hr
    subst hI
    refine ⟨fun c => absurd c (nI_ge hi (by decide)), fun _ => ⟨vp_in_nI hi (by decide), fun c => ?_, fun c => ?_⟩⟩
    · rw [nI_clamp (by omega)] at c
      rw [nI_1]
      exact hr _ (by simp only [cntN]; rw [if_neg c, Nat.add_zero])
    · rw [nI_clamp (by omega)] at c
      rw [nI_1, nI_1]
      exact hr _ (by simp only [cntN]; rw [if_pos c])
theorem e_lying {x : Int32} {f : Nat → Int32} {post : Int32 → Prop} (h : post (nI (cntN f x 20))) : p_M_lying x f post := by
  refine pk_loop (fun n i (s : Int32) => p_M_lying_L4 x f (fun k_9 _ => post k_9) n s (nI i)) (fun i s => s = nI (cntN f x i)) 20 0 0 (by decide) rfl ?_ ?_
  · intro n s hI
    subst hI
    exact ⟨fun _ => h, fun c => absurd (nI_le (Nat.le_refl 20) (by decide)) c⟩
  · intro n i s hi hI hr
    subst hI
    refine ⟨fun c => absurd c (nI_ge hi (by decide)), fun _ => ⟨vp_in_nI hi (by decide), fun c => ?_, fun c => ?_⟩⟩
    · rw [nI_clamp (by omega)] at c
      rw [nI_1]
      exact hr _ (by simp only [cntN]; rw [if_neg c, ad0]; rfl)
    · rw [nI_clamp (by omega)] at c
      rw [nI_1, nI_1]
      exact hr _ (by simp only [cntN]; rw [if_pos c])
theorem e_countsOn {x : Int32} {f g : Nat → Int32} {post : Int32 → Prop} (h : post (sumE f g x 20)) : p_C_countsOn x f g post := by
  refine pk_loop (fun n i (s : Int32) => p_C_countsOn_L4 x f g (fun k_7 _ => post k_7) n s (nI i)) (fun i s => s = sumE f g x i) 20 0 0 (by decide) rfl ?_ ?_
  · intro n s hI
    subst hI
    exact ⟨fun _ => h, fun c => absurd (nI_le (Nat.le_refl 20) (by decide)) c⟩
  · intro n i s hi hI hr
    subst hI
    refine ⟨fun c => absurd c (nI_ge hi (by decide)), fun _ => ⟨vp_in_nI hi (by decide), fun c => ?_, fun c => ⟨vp_in_nI hi (by decide), ?_⟩⟩⟩
    · rw [nI_clamp (by omega)] at c
      rw [nI_1]
      exact hr _ (by simp only [sumE]; rw [if_neg c])
    · rw [nI_clamp (by omega)] at c ⊢
      rw [nI_1]
      exact hr _ (by simp only [sumE]; rw [if_pos c])
theorem e_sum {x : Int32} {f g : Nat → Int32} {post : Int32 → Prop} (h : post (sumE f g x 20)) : p_M_sum x f g post := by
  refine pk_loop (fun n i (s : Int32) => p_M_sum_L4 x f g (fun k_11 _ => post k_11) n s (nI i)) (fun i s => s = sumE f g x i) 20 0 0 (by decide) rfl ?_ ?_
  · intro n s hI
    subst hI
    exact ⟨fun _ => h, fun c => absurd (nI_le (Nat.le_refl 20) (by decide)) c⟩
  · intro n i s hi hI hr
    subst hI
    refine ⟨fun c => absurd c (nI_ge hi (by decide)), fun _ => ⟨vp_in_nI hi (by decide), fun c => ?_, fun c => ⟨vp_in_nI hi (by decide), ?_⟩⟩⟩
    · rw [nI_clamp (by omega)] at c
      rw [nI_1]
      exact hr _ (by simp only [sumE]; rw [if_neg c, ad0])
    · rw [nI_clamp (by omega)] at c ⊢
      rw [nI_1]
      exact hr _ (by simp only [sumE]; rw [if_pos c])
-- is a unit listed
def isL (list : Nat → Int32) (x : Int32) (ll : Nat) : Prop := ∃ i, i < ll ∧ list i = x
theorem e_isListedC {x : Int32} {ll : Nat} {list : Nat → Int32} {post : Int32 → Prop} (hl : ll ≤ 8) (h1 : isL list x ll → post 1) (h0 : ¬ isL list x ll → post 0) : p_C_isListed x (nI ll) list post := by
  refine pk_loop (fun n i (_ : Unit) => p_C_isListed_L2 x (nI ll) list post (fun _ => post 0) n (nI i)) (fun i _ => ∀ a, a < i → ¬ list a = x) ll 0 () (Nat.zero_le _) (fun a h => absurd h (Nat.not_lt_zero a)) ?_ ?_
  · intro n s hI
    exact ⟨fun _ => h0 (fun ⟨i, hi, e⟩ => hI i hi e), fun c => absurd (nI_le (Nat.le_refl ll) (by omega)) c⟩
  · intro n i s hi hI hr
    refine ⟨fun c => absurd c (nI_ge hi (by omega)), fun _ => ⟨vp_in_nI (show i < 8 by omega) (by decide), fun c => ?_, fun c => ?_⟩⟩
    · rw [nI_clamp (by omega)] at c
      rw [nI_1]
      refine hr () (fun a ha => ?_)
      by_cases e : a = i
      · subst e; exact c
      · exact hI a (by omega)
    · rw [nI_clamp (by omega)] at c
      exact h1 ⟨i, hi, c⟩
theorem e_isListedM {x : Int32} {ll : Nat} {list : Nat → Int32} {post : Int32 → Prop} (hl : ll ≤ 8) (h1 : isL list x ll → post 1) (h0 : ¬ isL list x ll → post 0) : p_M_isListed x (nI ll) list post := by
  refine pk_loop (fun n i (_ : Unit) => p_M_isListed_L2 x (nI ll) list post (fun _ => post 0) n (nI i)) (fun i _ => ∀ a, a < i → ¬ list a = x) ll 0 () (Nat.zero_le _) (fun a h => absurd h (Nat.not_lt_zero a)) ?_ ?_
  · intro n s hI
    exact ⟨fun _ => h0 (fun ⟨i, hi, e⟩ => hI i hi e), fun c => absurd (nI_le (Nat.le_refl ll) (by omega)) c⟩
  · intro n i s hi hI hr
    refine ⟨fun c => absurd c (nI_ge hi (by omega)), fun _ => ⟨vp_in_nI (show i < 8 by omega) (by decide), fun c => ?_, fun c => ?_⟩⟩
    · rw [nI_clamp (by omega)] at c
      rw [nI_1]
      refine hr () (fun a ha => ?_)
      by_cases e : a = i
      · subst e; exact c
      · exact hI a (by omega)
    · rw [nI_clamp (by omega)] at c
      exact h1 ⟨i, hi, c⟩
-- doors
def opn (d : Nat → Int32) : Prop := ¬ d 0 = 0 ∨ ¬ d 1 = 0
theorem e_closed {d : Nat → Int32} {post : Prop} {pex : String → Prop} (h1 : opn d → pex "java/lang/IllegalStateException") (h0 : ¬ opn d → post) : p_C_needClosedDoors d post pex := by
  refine ⟨3, ?_⟩
  refine ⟨fun c => absurd c (by decide), fun _ => ⟨vp_in_nI (show 0 < 2 by decide) (by decide), fun c => ?_, fun c => h1 (Or.inl c)⟩⟩
  refine ⟨fun c => absurd c (by decide), fun _ => ⟨vp_in_nI (show 1 < 2 by decide) (by decide), fun c2 => ?_, fun c2 => h1 (Or.inr c2)⟩⟩
  exact ⟨fun _ => h0 (fun h => h.elim (fun z => z c) (fun z => z c2)), fun c => absurd (by decide) c⟩
theorem e_anyDoor {d : Nat → Int32} {post : Int32 → Prop} (h1 : opn d → post 1) (h0 : ¬ opn d → post 0) : p_M_anyDoor d post := by
  refine ⟨vp_in_nI (show 0 < 2 by decide) (by decide), fun c => h1 (Or.inl c), fun c => ⟨vp_in_nI (show 1 < 2 by decide) (by decide), fun c2 => h0 (fun h => h.elim (fun z => z c) (fun z => z c2)), fun c2 => h1 (Or.inr c2)⟩⟩
