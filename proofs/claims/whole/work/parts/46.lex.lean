/-! ===== pure: words, numbers, signs ===== -/
abbrev z_bl (x : Nat) : Prop := x = 10 ∨ x = 32
abbrev z_le (x : Nat) : Prop := 97 ≤ x ∧ x ≤ 122
abbrev z_di (x : Nat) : Prop := 48 ≤ x ∧ x ≤ 57
def z_run (p : Nat → Bool) : Nat → Nat → Nat
  | 0, b => b
  | f + 1, b => if p b then z_run p f (b + 1) else b
def z_rn (p : Nat → Bool) (n b : Nat) : Nat := z_run p (n - b) b
theorem z_run_s {p : Nat → Bool} : ∀ {f b : Nat}, b ≤ z_run p f b ∧ z_run p f b ≤ b + f ∧ (∀ j, b ≤ j → j < z_run p f b → p j = true) ∧ (z_run p f b < b + f → p (z_run p f b) = false)
  | 0, b => ⟨Nat.le_refl _, Nat.le_refl _, fun j h1 h2 => by simp only [z_run] at h2; omega, fun h => by simp only [z_run] at h; omega⟩
  | f + 1, b => by
    have ih := z_run_s (p := p) (f := f) (b := b + 1)
    unfold z_run
    cases hp : p b with
    | true =>
      rw [if_pos rfl]
      refine ⟨by omega, by omega, fun j h1 h2 => ?_, fun h => ih.2.2.2 (by omega)⟩
      by_cases e : j = b
      · rw [e]; exact hp
      · exact ih.2.2.1 j (by omega) h2
    | false =>
      rw [if_neg (by decide)]
      exact ⟨Nat.le_refl _, by omega, fun j h1 h2 => by omega, fun _ => hp⟩
theorem z_rn_s {p : Nat → Bool} {n b : Nat} (hb : b ≤ n) : b ≤ z_rn p n b ∧ z_rn p n b ≤ n ∧ (∀ j, b ≤ j → j < z_rn p n b → p j = true) ∧ (z_rn p n b < n → p (z_rn p n b) = false) := by
  have h := z_run_s (p := p) (f := n - b) (b := b)
  rw [show b + (n - b) = n by omega] at h
  exact h
theorem z_rn_u {p : Nat → Bool} {n b k : Nat} (hb : b ≤ n) (h1 : b ≤ k) (h2 : k ≤ n) (h3 : ∀ j, b ≤ j → j < k → p j = true) (h4 : k < n → p k = false) : z_rn p n b = k := by
  have h := z_rn_s (p := p) hb
  by_cases c : z_rn p n b < k
  · have := h3 _ h.1 c
    rw [h.2.2.2 (by omega)] at this; cases this
  · by_cases c2 : k < z_rn p n b
    · have := h.2.2.1 k h1 c2
      rw [h4 (by omega)] at this; cases this
    · omega
section
variable (T : Nat → Nat) (n : Nat)
def z_sk (b : Nat) : Nat := z_rn (fun k => decide (z_bl (T k))) n b
def z_wd (b : Nat) : Nat := z_rn (fun k => decide (z_le (T k))) n b
def z_dg (b : Nat) : Nat := z_rn (fun k => decide (z_di (T k))) n b
/-- the sort of what stands at b: 0 the end, 1 a word, 2 a number, 3 a sign, 4 what touches -/
def z_so (b : Nat) : Nat :=
  if n ≤ z_sk T n b then 0
  else if z_le (T (z_sk T n b)) then (if 0 < z_sk T n b ∧ z_di (T (z_sk T n b - 1)) then 4 else 1)
  else if z_di (T (z_sk T n b)) then (if 0 < z_sk T n b ∧ z_le (T (z_sk T n b - 1)) then 4 else 2)
  else 3
/-- where it ends -/
def z_en (b : Nat) : Nat :=
  if n ≤ z_sk T n b then z_sk T n b
  else if z_le (T (z_sk T n b)) then z_wd T n (z_sk T n b)
  else if z_di (T (z_sk T n b)) then z_dg T n (z_sk T n b)
  else z_sk T n b + 1
/-- its letters -/
def z_lt0 (b i : Nat) : Nat := if z_sk T n b < n ∧ z_le (T (z_sk T n b)) ∧ z_sk T n b + i < z_en T n b then T (z_sk T n b + i) else 0
/-- what is behind b does not go on with what is ahead of it -/
def z_mb (b : Nat) : Prop := b ≤ n ∧ (0 < b → b < n → ¬ (z_le (T (b - 1)) ∧ z_le (T b)) ∧ ¬ (z_di (T (b - 1)) ∧ z_di (T b)))
end
section
variable {T : Nat → Nat} {n b : Nat} {M : SM}
theorem z_sk_s (hb : b ≤ n) : b ≤ z_sk T n b ∧ z_sk T n b ≤ n ∧ (∀ j, b ≤ j → j < z_sk T n b → z_bl (T j)) ∧ (z_sk T n b < n → ¬ z_bl (T (z_sk T n b))) := by
  have h := z_rn_s (p := fun k => decide (z_bl (T k))) hb
  exact ⟨h.1, h.2.1, fun j h1 h2 => of_decide_eq_true (h.2.2.1 j h1 h2), fun q => of_decide_eq_false (h.2.2.2 q)⟩
theorem z_wd_s (hb : b ≤ n) : b ≤ z_wd T n b ∧ z_wd T n b ≤ n ∧ (∀ j, b ≤ j → j < z_wd T n b → z_le (T j)) ∧ (z_wd T n b < n → ¬ z_le (T (z_wd T n b))) := by
  have h := z_rn_s (p := fun k => decide (z_le (T k))) hb
  exact ⟨h.1, h.2.1, fun j h1 h2 => of_decide_eq_true (h.2.2.1 j h1 h2), fun q => of_decide_eq_false (h.2.2.2 q)⟩
theorem z_dg_s (hb : b ≤ n) : b ≤ z_dg T n b ∧ z_dg T n b ≤ n ∧ (∀ j, b ≤ j → j < z_dg T n b → z_di (T j)) ∧ (z_dg T n b < n → ¬ z_di (T (z_dg T n b))) := by
  have h := z_rn_s (p := fun k => decide (z_di (T k))) hb
  exact ⟨h.1, h.2.1, fun j h1 h2 => of_decide_eq_true (h.2.2.1 j h1 h2), fun q => of_decide_eq_false (h.2.2.2 q)⟩
/-- a step goes on, and keeps what holds -/
theorem z_en_s (hb : b ≤ n) : z_sk T n b ≤ z_en T n b ∧ z_en T n b ≤ n ∧ (z_sk T n b < n → z_sk T n b < z_en T n b) ∧ z_mb T n (z_en T n b) := by
  have hs := z_sk_s (T := T) hb
  unfold z_en
  by_cases c0 : n ≤ z_sk T n b
  · rw [if_pos c0]
    exact ⟨Nat.le_refl _, hs.2.1, fun h => by omega, hs.2.1, fun _ h => by omega⟩
  · rw [if_neg c0]
    by_cases c1 : z_le (T (z_sk T n b))
    · rw [if_pos c1]
      have hw := z_wd_s (T := T) (n := n) hs.2.1
      have hlt : z_sk T n b < z_wd T n (z_sk T n b) := by
        by_cases e : z_wd T n (z_sk T n b) = z_sk T n b
        · have := hw.2.2.2 (by omega); rw [e] at this; exact absurd c1 this
        · omega
      refine ⟨hw.1, hw.2.1, fun _ => hlt, hw.2.1, fun h1 h2 => ⟨fun q => hw.2.2.2 h2 q.2, fun q => ?_⟩⟩
      have := hw.2.2.1 (z_wd T n (z_sk T n b) - 1) (by omega) (by omega)
      omega
    · rw [if_neg c1]
      by_cases c2 : z_di (T (z_sk T n b))
      · rw [if_pos c2]
        have hw := z_dg_s (T := T) (n := n) hs.2.1
        have hlt : z_sk T n b < z_dg T n (z_sk T n b) := by
          by_cases e : z_dg T n (z_sk T n b) = z_sk T n b
          · have := hw.2.2.2 (by omega); rw [e] at this; exact absurd c2 this
          · omega
        refine ⟨hw.1, hw.2.1, fun _ => hlt, hw.2.1, fun h1 h2 => ⟨fun q => ?_, fun q => hw.2.2.2 h2 q.2⟩⟩
        have := hw.2.2.1 (z_dg T n (z_sk T n b) - 1) (by omega) (by omega)
        omega
      · rw [if_neg c2]
        refine ⟨by omega, by omega, fun _ => by omega, by omega, fun h1 h2 => ?_⟩
        rw [show z_sk T n b + 1 - 1 = z_sk T n b by omega]
        exact ⟨fun q => c1 q.1, fun q => c2 q.1⟩
/-- what touches the one ahead -/
theorem z_tou (hm : z_mb T n b) (hk : z_sk T n b < n) (h1 : z_le (T (z_sk T n b)) ∨ z_di (T (z_sk T n b))) : (0 < z_sk T n b ∧ (if z_le (T (z_sk T n b)) then z_di (T (z_sk T n b - 1)) else z_le (T (z_sk T n b - 1)))) ↔ (z_sk T n b = b ∧ 0 < b ∧ (z_le (T (b - 1)) ∨ z_di (T (b - 1)))) := by
  have hs := z_sk_s (T := T) hm.1
  by_cases e : z_sk T n b = b
  · rw [e] at h1 hk ⊢
    constructor
    · rintro ⟨q1, q2⟩
      refine ⟨rfl, q1, ?_⟩
      split at q2
      · exact Or.inr q2
      · exact Or.inl q2
    · rintro ⟨_, q1, q2⟩
      refine ⟨q1, ?_⟩
      have hm2 := hm.2 q1 hk
      split
      · next c => rcases q2 with q2 | q2; exact absurd ⟨q2, c⟩ hm2.1; exact q2
      · next c =>
        rcases q2 with q2 | q2
        · exact q2
        · rcases h1 with h1 | h1
          · exact absurd h1 c
          · exact absurd ⟨q2, h1⟩ hm2.2
  · constructor
    · rintro ⟨q1, q2⟩
      have hbl := hs.2.2.1 (z_sk T n b - 1) (by omega) (by omega)
      have : z_di (T (z_sk T n b - 1)) ∨ z_le (T (z_sk T n b - 1)) := by
        split at q2
        · exact Or.inl q2
        · exact Or.inr q2
      omega
    · rintro ⟨q, _⟩; exact absurd q e
theorem c_isBl {x : Nat} (hx : x < 2 ^ 30) : f_Re_isBlank (nI x) = some (if z_bl x then 1 else 0) := by
  unfold f_Re_isBlank
  rw [show (10 : Int32) = nI 10 from rfl, show (32 : Int32) = nI 32 from rfl]
  have e1 : nI x = nI 10 ↔ x = 10 := nI_eq (by omega) (by decide)
  have e2 : nI x = nI 32 ↔ x = 32 := nI_eq (by omega) (by decide)
  by_cases c : x = 10
  · rw [if_pos (e1.mpr c), if_pos (Or.inl c)]
  rw [if_neg (fun q => c (e1.mp q))]
  by_cases c2 : x = 32
  · rw [if_pos (e2.mpr c2), if_pos (Or.inr c2)]
  rw [if_neg (fun q => c2 (e2.mp q)), if_neg (fun q => q.elim c c2)]
theorem c_isDi {x : Nat} (hx : x < 2 ^ 30) : f_Re_isDigit (nI x) = some (if z_di x then 1 else 0) := by
  unfold f_Re_isDigit
  rw [show (48 : Int32) = nI 48 from rfl, show (57 : Int32) = nI 57 from rfl]
  have e1 : nI x < nI 48 ↔ x < 48 := nI_ltI (by omega) (by decide)
  have e2 : nI 57 < nI x ↔ 57 < x := nI_ltI (by decide) (by omega)
  by_cases c : x < 48
  · rw [if_pos (e1.mpr c), if_neg (by omega)]
  rw [if_neg (fun q => c (e1.mp q))]
  by_cases c2 : 57 < x
  · rw [if_pos (e2.mpr c2), if_neg (by omega)]
  rw [if_neg (fun q => c2 (e2.mp q)), if_pos (by omega)]
theorem c_isLe {x : Nat} (hx : x < 2 ^ 30) : f_Re_isLetter (nI x) = some (if z_le x then 1 else 0) := by
  unfold f_Re_isLetter
  rw [show (97 : Int32) = nI 97 from rfl, show (122 : Int32) = nI 122 from rfl]
  have e1 : nI x < nI 97 ↔ x < 97 := nI_ltI (by omega) (by decide)
  have e2 : nI 122 < nI x ↔ 122 < x := nI_ltI (by decide) (by omega)
  by_cases c : x < 97
  · rw [if_pos (e1.mpr c), if_neg (by omega)]
  rw [if_neg (fun q => c (e1.mp q))]
  by_cases c2 : 122 < x
  · rw [if_pos (e2.mpr c2), if_neg (by omega)]
  rw [if_neg (fun q => c2 (e2.mp q)), if_pos (by omega)]
/-- the class's reader stands at b -/
def z_RD (T : Nat → Nat) (n b : Nat) (M : SM) : Prop := M.1 3 1 = nI (z_so T n b) ∧ M.1 3 3 = nI (z_sk T n b) ∧ M.1 3 4 = nI (z_en T n b) ∧ ∀ i, i < 12 → M.1 4 i = nI (z_lt0 T n b i)
/-- what the reader changes -/
def z_RE (M M' : SM) : Prop := z_Fr (fun i => i ≠ 3 ∧ i ≠ 4) M M'
theorem z_tc.re {M' : SM} (h : z_tc n T M) (k : z_RE M M') : z_tc n T M' := ⟨by rw [k.1 1 (by decide)]; exact h.1, fun j hj => by rw [k.1 2 (by decide)]; exact h.2 j hj⟩
theorem z_tc.fr {M' : SM} (h : z_tc n T M) (k1 : M'.1 1 = M.1 1) (k2 : M'.1 2 = M.1 2) : z_tc n T M' := ⟨by rw [k1]; exact h.1, fun j hj => by rw [k2]; exact h.2 j hj⟩
theorem z_RD.fr {M' : SM} (h : z_RD T n b M) (k1 : M'.1 3 = M.1 3) (k2 : M'.1 4 = M.1 4) : z_RD T n b M' := by
  unfold z_RD
  rw [k1, k2]; exact h
theorem z_if01 {c : Prop} [Decidable c] {α : Type} {f g : α} : (if (if c then (1 : Int32) else 0) = 0 then f else g) = if c then g else f := by
  by_cases h : c
  · rw [if_pos h, if_pos h]; rfl
  · rw [if_neg h, if_neg h]; rfl
theorem c_step (hw : z_wt n T) (h : z_tc n T M) (hb : b ≤ n) (hM : M.1 3 4 = nI b) :
    z_ok (f_Re_step 3 M) (fun M' => z_RD T n b M' ∧ z_RE M M' ∧ (∀ k, k = 5 ∨ k = 6 → M'.1 3 k = M.1 3 k)) := by
  have hn := hw.1
  have hs := z_sk_s (T := T) hb
  have hen := z_en_s (T := T) hb
  unfold f_Re_step
  rw [hM]
  refine z_bind (P := fun q => q = nI (z_sk T n b)) ?_ (fun q hq => ?_)
  · refine z_loop0 (fun m c => lp_Re_step_5 3 M m c) (fun c => b ≤ c) _ (z_sk T n b) ?_ ?_ jfuel b hs.1 (by rw [z_jf]; omega) (Nat.le_refl _)
    · intro m c hc hI k
      have hbl := hs.2.2.1 c hI hc
      show z_ok (lp_Re_step_5 3 M (m + 1) (nI c)) _
      rw [lp_Re_step_5, jp_3_0, h.1]
      refine z_pos (nI_lt (by omega) (by omega)) ?_
      refine z_eq (c_read hw h (by omega)) ?_
      rw [if_pos (by omega)]
      have hT := hw.2 c (by omega)
      refine z_eq (c_isBl (by omega)) ?_
      rw [if_pos hbl]
      refine z_neg z_10 ?_
      rw [nI_1]
      exact k (by omega)
    · intro m hI
      show z_ok (lp_Re_step_5 3 M (m + 1) (nI (z_sk T n b))) _
      rw [lp_Re_step_5, jp_3_0, h.1]
      by_cases c : z_sk T n b < n
      · refine z_pos (nI_lt c (by omega)) ?_
        refine z_eq (c_read hw h (by omega)) ?_
        rw [if_pos c]
        have hT := hw.2 _ c
        refine z_eq (c_isBl (by omega)) ?_
        rw [if_neg (hs.2.2.2 c)]
        exact z_pos rfl (z_some rfl)
      · exact z_neg (nI_nlt (by omega) (by omega)) (z_some rfl)
  subst hq
  generalize hK : z_sk T n b = k at hs hen
  generalize hM1 : sI M 3 3 (nI k) = M1
  have h1 : z_tc n T M1 := h.fr (by rw [← hM1]; rfl) (by rw [← hM1]; rfl)
  have g3 : M1.1 3 3 = nI k := by rw [← hM1, z_sIs]
  have gk : ∀ j, j ≠ 3 → M1.1 3 j = M.1 3 j := fun j hj => by rw [← hM1, z_sIk _ _ _ _ hj]
  have ga : ∀ i, i ≠ 3 → M1.1 i = M.1 i := fun i hi => by rw [← hM1, z_sIa _ _ _ _ hi]
  have g2 : M1.2 = M.2 := by rw [← hM1]; rfl
  rw [jp_3_0]
  -- what stands there
  have rd : ∀ j, j < 2 ^ 30 → f_Ta_read 1 (nI j) M1 = some (if j < n then nI (T j) else -1) := fun j hj => c_read hw h1 hj
  have eD : ∀ j, j < n → f_Re_isDigit (nI (T j)) = some (if z_di (T j) then 1 else 0) := fun j hj => c_isDi (by have := hw.2 j hj; omega)
  have eL : ∀ j, j < n → f_Re_isLetter (nI (T j)) = some (if z_le (T j) then 1 else 0) := fun j hj => c_isLe (by have := hw.2 j hj; omega)
  have eD0 : f_Re_isDigit (-1) = some 0 := rfl
  have eL0 : f_Re_isLetter (-1) = some 0 := rfl
  refine z_eq (rd k (by omega)) ?_
  refine z_eq (r := if k < n ∧ z_di (T k) then 1 else 0) (by
    by_cases c : k < n
    · rw [if_pos c, eD k c]
      by_cases c2 : z_di (T k)
      · rw [if_pos c2, if_pos ⟨c, c2⟩]
      · rw [if_neg c2, if_neg (fun q => c2 q.2)]
    · rw [if_neg c, if_neg (fun q => c q.1)]; rfl) ?_
  refine z_eq (rd k (by omega)) ?_
  refine z_eq (r := if k < n ∧ z_le (T k) then 1 else 0) (by
    by_cases c : k < n
    · rw [if_pos c, eL k c]
      by_cases c2 : z_le (T k)
      · rw [if_pos c2, if_pos ⟨c, c2⟩]
      · rw [if_neg c2, if_neg (fun q => c2 q.2)]
    · rw [if_neg c, if_neg (fun q => c q.1)]; rfl) ?_
  -- the sort
  have hso : z_so T n b = if n ≤ k then 0 else if z_le (T k) then (if 0 < k ∧ z_di (T (k - 1)) then 4 else 1) else if z_di (T k) then (if 0 < k ∧ z_le (T (k - 1)) then 4 else 2) else 3 := by unfold z_so; rw [hK]
  have hen2 : z_en T n b = if n ≤ k then k else if z_le (T k) then z_wd T n k else if z_di (T k) then z_dg T n k else k + 1 := by unfold z_en; rw [hK]
  generalize hst : (if n ≤ k then k else if z_le (T k) then k else if z_di (T k) then k else k + 1) = st
  refine z_bind (P := fun r : Int32 × SM => r = (nI st, sI M1 3 1 (nI (z_so T n b)))) ?_ (fun r hr => ?_)
  · rw [h1.1]
    refine z_lt k n rfl rfl (by omega) (by omega) (fun c => ?_) (fun c => z_some (by rw [hso, if_pos c, ← hst, if_pos c]; rfl))
    rw [z_if01]
    have pr : ∀ (p : Nat → Prop) [DecidablePred p], (∀ j, j < n → ∃ v, v = if p (T j) then (1 : Int32) else 0) → True := fun _ _ _ => trivial
    by_cases c1 : z_le (T k)
    · rw [if_pos ⟨c, c1⟩]
      rw [hso, if_neg (by omega), if_pos c1, ← hst, if_neg (by omega), if_pos c1]
      by_cases k0 : k = 0
      · subst k0
        show z_ok ((f_Ta_read 1 (nI 0 - 1) M1).bind _) _
        refine z_eq (r := (-1 : Int32)) (by unfold f_Ta_read; exact if_pos (by decide)) ?_
        refine z_eq eD0 ?_
        rw [if_neg (show ¬ (0 < 0 ∧ z_di (T (0 - 1))) from fun q => absurd q.1 (Nat.lt_irrefl 0))]
        exact z_some rfl
      · rw [z_ls (by omega)]
        refine z_eq (rd (k - 1) (by omega)) ?_
        rw [if_pos (by omega)]
        refine z_eq (eD (k - 1) (by omega)) ?_
        rw [z_if01]
        by_cases c3 : z_di (T (k - 1))
        · rw [if_pos c3, if_pos ⟨by omega, c3⟩]; exact z_some rfl
        · rw [if_neg c3, if_neg (fun q => c3 q.2)]; exact z_some rfl
    · rw [if_neg (fun q => c1 q.2), z_if01]
      by_cases c2 : z_di (T k)
      · rw [if_pos ⟨c, c2⟩]
        rw [hso, if_neg (by omega), if_neg c1, if_pos c2, ← hst, if_neg (by omega), if_neg c1, if_pos c2]
        by_cases k0 : k = 0
        · subst k0
          show z_ok ((f_Ta_read 1 (nI 0 - 1) M1).bind _) _
          refine z_eq (r := (-1 : Int32)) (by unfold f_Ta_read; exact if_pos (by decide)) ?_
          refine z_eq eL0 ?_
          rw [if_neg (show ¬ (0 < 0 ∧ z_le (T (0 - 1))) from fun q => absurd q.1 (Nat.lt_irrefl 0))]
          exact z_some rfl
        · rw [z_ls (by omega)]
          refine z_eq (rd (k - 1) (by omega)) ?_
          rw [if_pos (by omega)]
          refine z_eq (eL (k - 1) (by omega)) ?_
          rw [z_if01]
          by_cases c3 : z_le (T (k - 1))
          · rw [if_pos c3, if_pos ⟨by omega, c3⟩]; exact z_some rfl
          · rw [if_neg c3, if_neg (fun q => c3 q.2)]; exact z_some rfl
      · rw [if_neg (fun q => c2 q.2)]
        rw [hso, if_neg (by omega), if_neg c1, if_neg c2, ← hst, if_neg (by omega), if_neg c1, if_neg c2, nI_1]
        exact z_some rfl
  subst hr
  show z_ok ((lp_Re_step_156 3 (if k < n ∧ z_di (T k) then 1 else 0) (if k < n ∧ z_le (T k) then 1 else 0) (sI M1 3 1 (nI (z_so T n b))) jfuel (nI st)).bind _) _
  generalize hM2 : sI M1 3 1 (nI (z_so T n b)) = M2
  have h2 : z_tc n T M2 := h1.fr (by rw [← hM2]; rfl) (by rw [← hM2]; rfl)
  have hstb : st ≤ n ∧ k ≤ st := by
    rw [← hst]
    by_cases c : n ≤ k
    · rw [if_pos c]; omega
    · rw [if_neg c]
      by_cases c1 : z_le (T k)
      · rw [if_pos c1]; omega
      · rw [if_neg c1]
        by_cases c2 : z_di (T k)
        · rw [if_pos c2]; omega
        · rw [if_neg c2]; omega
  -- its end
  refine z_bind (P := fun q => q = nI (z_en T n b)) ?_ (fun q hq => ?_)
  · have hen3 : st ≤ z_en T n b ∧ z_en T n b ≤ n := by
      refine ⟨?_, hen.2.1⟩
      rw [← hst, hen2]
      have hwd := z_wd_s (T := T) (n := n) hs.2.1
      have hdg := z_dg_s (T := T) (n := n) hs.2.1
      by_cases c : n ≤ k
      · rw [if_pos c, if_pos c]; omega
      · rw [if_neg c, if_neg c]
        by_cases c1 : z_le (T k)
        · rw [if_pos c1, if_pos c1]; omega
        · rw [if_neg c1, if_neg c1]
          by_cases c2 : z_di (T k)
          · rw [if_pos c2, if_pos c2]; omega
          · rw [if_neg c2, if_neg c2]; omega
    refine z_loop0 (fun m c => lp_Re_step_156 3 (if k < n ∧ z_di (T k) then 1 else 0) (if k < n ∧ z_le (T k) then 1 else 0) M2 m c) (fun c => st ≤ c) _ (z_en T n b) ?_ ?_ jfuel st hen3.1 (by rw [z_jf]; omega) (Nat.le_refl _)
    · intro m c hc hI kk
      show z_ok (lp_Re_step_156 3 (if k < n ∧ z_di (T k) then 1 else 0) (if k < n ∧ z_le (T k) then 1 else 0) M2 (m + 1) (nI c)) _
      rw [lp_Re_step_156, jp_3_0, h2.1, z_if01, z_if01]
      refine z_pos (nI_lt (by omega) (by omega)) ?_
      have hT := hw.2 c (by omega)
      have hcn : c < n := by omega
      have hI0 : st ≤ c + 1 := Nat.le_succ_of_le hI
      by_cases c0 : n ≤ k
      · rw [hen2, if_pos c0] at hc; rw [← hst, if_pos c0] at hI; omega
      by_cases c1 : z_le (T k)
      · rw [if_pos ⟨by omega, c1⟩]
        rw [hen2, if_neg c0, if_pos c1] at hc
        rw [← hst, if_neg c0, if_pos c1] at hI
        refine z_eq (c_read hw h2 (by omega)) ?_
        rw [if_pos (by omega)]
        refine z_eq (c_isLe (by omega)) ?_
        rw [if_pos ((z_wd_s hs.2.1).2.2.1 c hI hc)]
        refine z_neg z_10 ?_
        rw [nI_1]; exact kk hI0
      · rw [if_neg (fun q => c1 q.2)]
        by_cases c2 : z_di (T k)
        · rw [if_pos ⟨by omega, c2⟩]
          rw [hen2, if_neg c0, if_neg c1, if_pos c2] at hc
          rw [← hst, if_neg c0, if_neg c1, if_pos c2] at hI
          refine z_eq (c_read hw h2 (by omega)) ?_
          rw [if_pos (by omega)]
          refine z_eq (c_isDi (by omega)) ?_
          rw [if_pos ((z_dg_s hs.2.1).2.2.1 c hI hc)]
          refine z_neg z_10 ?_
          rw [nI_1]; exact kk hI0
        · rw [hen2, if_neg c0, if_neg c1, if_neg c2] at hc
          rw [← hst, if_neg c0, if_neg c1, if_neg c2] at hI
          omega
    · intro m hI
      show z_ok (lp_Re_step_156 3 (if k < n ∧ z_di (T k) then 1 else 0) (if k < n ∧ z_le (T k) then 1 else 0) M2 (m + 1) (nI (z_en T n b))) _
      rw [lp_Re_step_156, jp_3_0, h2.1, z_if01, z_if01]
      by_cases q : z_en T n b < n
      · refine z_pos (nI_lt q (by omega)) ?_
        have hT := hw.2 _ q
        by_cases c0 : n ≤ k
        · rw [hen2, if_pos c0] at q; omega
        by_cases c1 : z_le (T k)
        · rw [if_pos ⟨by omega, c1⟩]
          refine z_eq (c_read (k := z_en T n b) hw h2 (by omega)) ?_
          rw [if_pos q]
          refine z_eq (c_isLe (by omega)) ?_
          have e : z_en T n b = z_wd T n k := by rw [hen2, if_neg c0, if_pos c1]
          rw [e] at q ⊢
          rw [if_neg ((z_wd_s hs.2.1).2.2.2 q)]
          exact z_pos rfl (z_some rfl)
        · rw [if_neg (fun q => c1 q.2)]
          by_cases c2 : z_di (T k)
          · rw [if_pos ⟨by omega, c2⟩]
            refine z_eq (c_read (k := z_en T n b) hw h2 (by omega)) ?_
            rw [if_pos q]
            refine z_eq (c_isDi (by omega)) ?_
            have e : z_en T n b = z_dg T n k := by rw [hen2, if_neg c0, if_neg c1, if_pos c2]
            rw [e] at q ⊢
            rw [if_neg ((z_dg_s hs.2.1).2.2.2 q)]
            exact z_pos rfl (z_some rfl)
          · rw [if_neg (fun q => c2 q.2)]
            exact z_some rfl
      · exact z_neg (nI_nlt (by omega) (by omega)) (z_some rfl)
  subst hq
  generalize hM3 : sI M2 3 4 (nI (z_en T n b)) = M3
  have h3 : z_tc n T M3 := h2.fr (by rw [← hM3]; rfl) (by rw [← hM3]; rfl)
  have r3 : ∀ j, j ≠ 1 → j ≠ 4 → M3.1 3 j = M1.1 3 j := fun j a b => by rw [← hM3, z_sIk _ _ _ _ b, ← hM2, z_sIk _ _ _ _ a]
  have r31 : M3.1 3 1 = nI (z_so T n b) := by rw [← hM3, z_sIk _ _ _ _ (by decide), ← hM2, z_sIs]
  have r34 : M3.1 3 4 = nI (z_en T n b) := by rw [← hM3, z_sIs]
  have ra : ∀ i, i ≠ 3 → M3.1 i = M.1 i := fun i hi => by rw [← hM3, z_sIa _ _ _ _ hi, ← hM2, z_sIa _ _ _ _ hi]; exact ga i hi
  have r2 : M3.2 = M.2 := by rw [← hM3, ← hM2]; exact g2
  refine z_bind (P := fun M' => z_Fr (fun i => i ≠ 4) M3 M' ∧ ∀ i, i < 12 → M'.1 4 i = nI (z_lt0 T n b i)) ?_ (fun M' hM' => z_some ⟨⟨?_, ?_, ?_, hM'.2⟩, ⟨fun i hi => ?_, ?_⟩, fun j hj => ?_⟩)
  · refine z_loop (fun m c s => lp_Re_step_220 3 (if k < n ∧ z_le (T k) then 1 else 0) m c s) (fun c M' => z_Fr (fun i => i ≠ 4) M3 M' ∧ ∀ i, i < c → M'.1 4 i = nI (z_lt0 T n b i)) _ 12 ?_ ?_ jfuel 0 M3 (by decide) (by decide) ⟨z_Fr.rf, fun i hi => by omega⟩
    · intro m c M' hc hI kk
      obtain ⟨i1, i2⟩ := hI
      have h' : z_tc n T M' := h3.fr (i1.1 1 (by decide)) (i1.1 2 (by decide))
      show z_ok (lp_Re_step_220 3 (if k < n ∧ z_le (T k) then 1 else 0) (m + 1) (nI c) M') _
      rw [lp_Re_step_220, jp_3_0, jp_3_2, i1.1 3 (by decide), r3 3 (by decide) (by decide), g3, r34, nI_add, z_if01]
      refine z_pos (nI_lt hc (by decide)) ?_
      refine z_eq (r := nI (z_lt0 T n b c)) ?_ ?_
      · unfold z_lt0
        rw [hK]
        by_cases c1 : k < n ∧ z_le (T k)
        · rw [if_pos c1]
          by_cases c2 : k + c < z_en T n b
          · rw [if_pos (nI_lt c2 (by omega)), c_read hw h' (by omega), if_pos (by omega), if_pos ⟨c1.1, c1.2, c2⟩]; rfl
          · rw [if_neg (nI_nlt (by omega) (by omega)), if_neg (fun q => c2 q.2.2)]; rfl
        · rw [if_neg c1, if_neg (fun q => c1 ⟨q.1, q.2.1⟩)]; rfl
      refine z_eq (zp_4 _ (by omega)) ?_
      rw [nI_1]
      refine kk _ ⟨i1.sI (by omega), fun i hi => ?_⟩
      by_cases e : i = c
      · subst e; rw [z_sIs]
      · rw [z_sIk _ _ _ _ e]; exact i2 i (by omega)
    · intro m M' hI
      show z_ok (lp_Re_step_220 3 (if k < n ∧ z_le (T k) then 1 else 0) (m + 1) (nI 12) M') _
      rw [lp_Re_step_220]
      exact z_neg (by decide) (z_some hI)
  · rw [hM'.1.1 3 (by decide)]; exact r31
  · rw [hM'.1.1 3 (by decide), r3 3 (by decide) (by decide), hK]; exact g3
  · rw [hM'.1.1 3 (by decide)]; exact r34
  · rw [hM'.1.1 i hi.2]; exact ra i hi.1
  · rw [hM'.1.2]; exact r2
  · rw [hM'.1.1 3 (by decide), r3 j (by omega) (by omega)]; exact gk j (by omega)
end
