/-! ===== pure: the river ===== -/
/-- an opera: A 0: 0 cells 1 pit 2 bank 3 desks 4 mills 5 boats 6 claques; A 1 bed 2 water 3 sluice 4 arms 5, 6 mills 7, 8 boats 9, 10 claques -/
abbrev ZA : Type := Nat → Nat → Nat
def z_OC (o : Nat) (A : ZA) (M : SM) : Prop :=
  M.1 o 1 = nI (A 0 0) ∧ M.1 o 2 = nI (A 0 1) ∧ M.1 o 3 = nI (A 0 2) ∧ M.1 o 4 = nI (A 0 3) ∧ M.1 (o + 30) 2 = nI (A 0 4) ∧ M.1 (o + 33) 2 = nI (A 0 5) ∧ M.1 (o + 36) 2 = nI (A 0 6) ∧
  (∀ c, c < A 0 0 → M.1 (o + 1) c = nI (A 1 c) ∧ M.1 (o + 2) c = nI (A 2 c) ∧ M.1 (o + 3) c = nI (A 3 c)) ∧
  (∀ d, d < A 0 3 → M.1 (o + 4) d = nI (A 4 d)) ∧
  (∀ i, i < A 0 4 → M.1 (o + 31) i = nI (A 5 i) ∧ M.1 (o + 32) i = nI (A 6 i)) ∧
  (∀ i, i < A 0 5 → M.1 (o + 34) i = nI (A 7 i) ∧ M.1 (o + 35) i = nI (A 8 i)) ∧
  (∀ i, i < A 0 6 → M.1 (o + 37) i = nI (A 9 i) ∧ M.1 (o + 38) i = nI (A 10 i))
theorem z_OC.fr {o : Nat} {A : ZA} {M M' : SM} (h : z_OC o A M) (k : ∀ i, o ≤ i → i < o + 40 → M'.1 i = M.1 i) : z_OC o A M' := by
  obtain ⟨a1, a2, a3, a4, a5, a6, a7, b1, b2, b3, b4, b5⟩ := h
  have e : ∀ j, j < 40 → M'.1 (o + j) = M.1 (o + j) := fun j hj => k _ (by omega) (by omega)
  have e0 : M'.1 o = M.1 o := e 0 (by omega)
  unfold z_OC
  rw [e0, e 30 (by omega), e 33 (by omega), e 36 (by omega), e 1 (by omega), e 2 (by omega), e 3 (by omega), e 4 (by omega), e 31 (by omega), e 32 (by omega), e 34 (by omega), e 35 (by omega), e 37 (by omega), e 38 (by omega)]
  exact ⟨a1, a2, a3, a4, a5, a6, a7, b1, b2, b3, b4, b5⟩
def z_OR (A : ZA) (M : SM) : Prop :=
  M.1 366 31 = nI (A 0 0) ∧ M.1 395 1 = nI (A 0 1) ∧ (M.1 396 1 = nI (A 0 2) ∨ (A 0 0 = 0 ∧ A 0 2 = 99 ∧ M.1 396 1 = 0)) ∧ M.1 385 4 = nI (A 0 3) ∧ M.1 385 5 = nI (A 0 4) ∧ M.1 385 6 = nI (A 0 5) ∧ M.1 385 7 = nI (A 0 6) ∧
  (∀ c, c < A 0 0 → M.1 387 (12 + c) = nI (A 1 c) ∧ M.1 388 (12 + c) = nI (A 2 c) ∧ M.1 389 (12 + c) = nI (A 3 c)) ∧
  (∀ d, d < A 0 3 → M.1 390 (8 + d) = nI (A 4 d)) ∧
  (∀ i, i < A 0 4 → M.1 392 (8 + 2 * i) = nI (A 5 i) ∧ M.1 392 (8 + 2 * i + 1) = nI (A 6 i)) ∧
  (∀ i, i < A 0 5 → M.1 393 (8 + 2 * i) = nI (A 7 i) ∧ M.1 393 (8 + 2 * i + 1) = nI (A 8 i)) ∧
  (∀ i, i < A 0 6 → M.1 394 (8 + 2 * i) = nI (A 9 i) ∧ M.1 394 (8 + 2 * i + 1) = nI (A 10 i))
theorem z_OR.fr {A : ZA} {M M' : SM} (h : z_OR A M) (e0 : M'.1 366 31 = M.1 366 31) (k : ∀ i, 385 ≤ i → i < 397 → i ≠ 391 → M'.1 i = M.1 i) : z_OR A M' := by
  unfold z_OR
  rw [e0, k 395 (by omega) (by omega) (by omega), k 396 (by omega) (by omega) (by omega), k 385 (by omega) (by omega) (by omega), k 387 (by omega) (by omega) (by omega), k 388 (by omega) (by omega) (by omega), k 389 (by omega) (by omega) (by omega), k 390 (by omega) (by omega) (by omega), k 392 (by omega) (by omega) (by omega), k 393 (by omega) (by omega) (by omega), k 394 (by omega) (by omega) (by omega)]
  exact h
def z_W (A : ZA) : Prop :=
  A 0 0 ≤ 12 ∧ A 0 3 ≤ 8 ∧ A 0 4 ≤ 4 ∧ A 0 5 ≤ 4 ∧ A 0 6 ≤ 4 ∧ 1 ≤ A 0 2 ∧ A 0 2 ≤ 99 ∧
  (∀ c, c < A 0 0 → A 1 c ≤ 9 ∧ A 2 c ≤ 99 ∧ A 3 c ≤ 1) ∧ (∀ d, d < A 0 3 → A 4 d ≤ 9) ∧
  (∀ i, i < A 0 4 → A 5 i < A 0 0 ∧ A 6 i ≤ 99) ∧ (∀ i, i < A 0 5 → A 7 i < A 0 0 ∧ A 8 i ≤ 99) ∧ (∀ i, i < A 0 6 → A 9 i < A 0 0 ∧ A 10 i ≤ 9)
def z_R (A : ZA) : Prop := 2 ≤ A 0 0 ∧ A 0 1 < A 0 0
/-! what a BAR does -/
abbrev ZS : Type := (Nat → Nat) × (Nat → Nat) × (Nat → Nat)
def r_in (A : ZA) (al : Nat → Nat → Nat) (b : Nat) : Nat → Nat × Nat := fun k => z_it (fun d s => (if al d b = 0 then s.1 + A 4 d else s.1, if al d b = 3 then 1 else s.2)) k (0, 0)
def r_fl (A : ZA) (t c : Nat) (w : Nat → Nat) : Nat → Nat :=
  if A 1 (c + 1) + w (c + 1) < A 1 c + w c ∧ ¬ (t = 1 ∧ A 3 c = 1) then z_u (z_u w c (w c - min ((A 1 c + w c - (A 1 (c + 1) + w (c + 1))) / 2) (w c))) (c + 1) (w (c + 1) + min ((A 1 c + w c - (A 1 (c + 1) + w (c + 1))) / 2) (w c)) else w
def r_dr (A : ZA) (i : Nat) (s : (Nat → Nat) × Nat) : (Nat → Nat) × Nat := (z_u s.1 (A 9 i) (s.1 (A 9 i) - min (A 10 i) (s.1 (A 9 i))), s.2 + min (A 10 i) (s.1 (A 9 i)))
def r_sp (A : ZA) (c : Nat) (s : (Nat → Nat) × Nat) : (Nat → Nat) × Nat := (z_u s.1 c (min (s.1 c) (A 0 2)), s.2 + (s.1 c - A 0 2))
def r_sa (A : ZA) (t : Nat) (w : Nat → Nat) (i : Nat) (bt : Nat → Nat) : Nat → Nat :=
  if A 8 i ≤ w (bt i) ∧ bt i ≠ A 0 0 - 1 ∧ ¬ (t = 1 ∧ A 3 (bt i) = 1) ∧ A 8 i ≤ w (bt i + 1) then z_u bt i (bt i + 1) else bt
def r_w1 (A : ZA) (al : Nat → Nat → Nat) (b : Nat) (w : Nat → Nat) : Nat → Nat := z_u w (A 0 1) (w (A 0 1) + (r_in A al b (A 0 3)).1)
def r_w2 (A : ZA) (al : Nat → Nat → Nat) (b : Nat) (w : Nat → Nat) : Nat → Nat := z_it (r_fl A (r_in A al b (A 0 3)).2) (A 0 0 - 1) (r_w1 A al b w)
def r_w3 (A : ZA) (w : Nat → Nat) : Nat → Nat := z_u w (A 0 0 - 1) (w (A 0 0 - 1) - w (A 0 0 - 1) / 2)
def r_w4 (A : ZA) (al : Nat → Nat → Nat) (b : Nat) (w : Nat → Nat) : (Nat → Nat) × Nat := z_it (r_dr A) (A 0 6) (r_w3 A (r_w2 A al b w), 0)
def r_w5 (A : ZA) (al : Nat → Nat → Nat) (b : Nat) (w : Nat → Nat) : (Nat → Nat) × Nat := z_it (r_sp A) (A 0 0) ((r_w4 A al b w).1, 0)
def r_bt (A : ZA) (al : Nat → Nat → Nat) (b : Nat) (w bt : Nat → Nat) : Nat → Nat := z_it (r_sa A (r_in A al b (A 0 3)).2 (r_w5 A al b w).1) (A 0 5) bt
/-- what it tells: 0 came 1 ran out 2 drunk 3 spilt 4 trilled -/
def r_on (A : ZA) (al : Nat → Nat → Nat) (b : Nat) (w : Nat → Nat) (k : Nat) : Nat :=
  if k = 0 then (r_in A al b (A 0 3)).1 else if k = 1 then r_w2 A al b w (A 0 0 - 1) / 2 else if k = 2 then (r_w4 A al b w).2 else if k = 3 then (r_w5 A al b w).2 else (r_in A al b (A 0 3)).2
def r_bar (A : ZA) (al : Nat → Nat → Nat) (b : Nat) (S : ZS) : ZS := ((r_w5 A al b S.1).1, r_bt A al b S.1 S.2.1, fun k => S.2.2 k + r_on A al b S.1 k)
def r_v (A : ZA) (al : Nat → Nat → Nat) : Nat → ZS
  | 0 => (A 2, A 7, fun _ => 0)
  | b + 1 => r_bar A al (b + 1) (r_v A al b)
def z_sum (n : Nat) (w : Nat → Nat) : Nat := z_it (fun c s => s + w c) n 0
theorem z_sum_le {w : Nat → Nat} : ∀ {n c : Nat}, c < n → w c ≤ z_sum n w := by
  intro n
  induction n with
  | zero => intro c h; omega
  | succ n ih =>
    intro c h
    show w c ≤ z_sum n w + w n
    by_cases e : c = n
    · subst e; omega
    · have := ih (c := c) (by omega); omega
theorem z_sum_u {w : Nat → Nat} {k v : Nat} : ∀ {n : Nat}, (n ≤ k → z_sum n (z_u w k v) = z_sum n w) ∧ (k < n → z_sum n (z_u w k v) + w k = z_sum n w + v) := by
  intro n
  induction n with
  | zero => exact ⟨fun _ => rfl, fun h => by omega⟩
  | succ n ih =>
    have e : z_sum (n + 1) (z_u w k v) = z_sum n (z_u w k v) + z_u w k v n := rfl
    have e2 : z_sum (n + 1) w = z_sum n w + w n := rfl
    rw [e, e2]
    refine ⟨fun h => ?_, fun h => ?_⟩
    · rw [ih.1 (by omega), z_un _ _ _ (by omega)]
    · by_cases q : k = n
      · subst q; rw [ih.1 (by omega), z_us]; omega
      · rw [z_un _ _ _ (fun e => q e.symm)]; have := ih.2 (by omega); omega
theorem z_sum_b {w : Nat → Nat} {m : Nat} : ∀ {n : Nat}, (∀ c, c < n → w c ≤ m) → z_sum n w ≤ n * m := by
  intro n
  induction n with
  | zero => intro _; exact Nat.zero_le _
  | succ n ih =>
    intro h
    show z_sum n w + w n ≤ _
    have h1 := ih (fun c hc => h c (by omega))
    have h2 := h n (by omega)
    rw [Nat.succ_mul]; omega
theorem r_fl_sum {A : ZA} {t c : Nat} {w : Nat → Nat} {n : Nat} (h : c + 1 < n) : z_sum n (r_fl A t c w) = z_sum n w := by
  unfold r_fl
  split
  · have h1 := (z_sum_u (w := w) (k := c) (v := w c - min ((A 1 c + w c - (A 1 (c + 1) + w (c + 1))) / 2) (w c)) (n := n)).2 (by omega)
    have h2 := (z_sum_u (w := z_u w c (w c - min ((A 1 c + w c - (A 1 (c + 1) + w (c + 1))) / 2) (w c))) (k := c + 1) (v := w (c + 1) + min ((A 1 c + w c - (A 1 (c + 1) + w (c + 1))) / 2) (w c)) (n := n)).2 h
    rw [z_un _ _ _ (show c + 1 ≠ c by omega)] at h2
    have h3 : min ((A 1 c + w c - (A 1 (c + 1) + w (c + 1))) / 2) (w c) ≤ w c := Nat.min_le_right _ _
    omega
  · rfl
theorem r_fls_sum {A : ZA} {t : Nat} {w : Nat → Nat} {n : Nat} : ∀ {k : Nat}, k < n → z_sum n (z_it (r_fl A t) k w) = z_sum n w := by
  intro k
  induction k with
  | zero => intro _; rfl
  | succ k ih =>
    intro h
    show z_sum n (r_fl A t k _) = _
    rw [r_fl_sum h]
    exact ih (by omega)
theorem r_in_b {A : ZA} {al : Nat → Nat → Nat} {b : Nat} (hW : ∀ d, d < A 0 3 → A 4 d ≤ 9) : ∀ {k : Nat}, k ≤ A 0 3 → (r_in A al b k).1 ≤ 9 * k ∧ (r_in A al b k).2 ≤ 1 := by
  intro k
  induction k with
  | zero => intro _; exact ⟨Nat.le_refl _, Nat.zero_le _⟩
  | succ k ih =>
    intro h
    have := ih (by omega)
    have h2 := hW k (by omega)
    show (if al k b = 0 then (r_in A al b k).1 + A 4 k else (r_in A al b k).1) ≤ _ ∧ (if al k b = 3 then 1 else (r_in A al b k).2) ≤ _
    constructor
    · split <;> omega
    · split <;> omega
theorem r_dr_sum {A : ZA} {s : (Nat → Nat) × Nat} {n i : Nat} (h : A 9 i < n) : z_sum n (r_dr A i s).1 + (r_dr A i s).2 = z_sum n s.1 + s.2 := by
  have h1 := (z_sum_u (w := s.1) (k := A 9 i) (v := s.1 (A 9 i) - min (A 10 i) (s.1 (A 9 i))) (n := n)).2 h
  have h2 : min (A 10 i) (s.1 (A 9 i)) ≤ s.1 (A 9 i) := Nat.min_le_right _ _
  show z_sum n (z_u s.1 (A 9 i) (s.1 (A 9 i) - min (A 10 i) (s.1 (A 9 i)))) + (s.2 + min (A 10 i) (s.1 (A 9 i))) = _
  omega
theorem r_drs_sum {A : ZA} {s : (Nat → Nat) × Nat} {n : Nat} (hW : ∀ i, i < A 0 6 → A 9 i < n) : ∀ {k : Nat}, k ≤ A 0 6 → z_sum n (z_it (r_dr A) k s).1 + (z_it (r_dr A) k s).2 = z_sum n s.1 + s.2 := by
  intro k
  induction k with
  | zero => intro _; rfl
  | succ k ih =>
    intro h
    show z_sum n (r_dr A k (z_it (r_dr A) k s)).1 + (r_dr A k (z_it (r_dr A) k s)).2 = _
    rw [r_dr_sum (hW k (by omega))]
    exact ih (by omega)
theorem r_sp_sum {A : ZA} {s : (Nat → Nat) × Nat} {n c : Nat} (h : c < n) : z_sum n (r_sp A c s).1 + (r_sp A c s).2 = z_sum n s.1 + s.2 := by
  have h1 := (z_sum_u (w := s.1) (k := c) (v := min (s.1 c) (A 0 2)) (n := n)).2 h
  show z_sum n (z_u s.1 c (min (s.1 c) (A 0 2))) + (s.2 + (s.1 c - A 0 2)) = _
  omega
theorem r_sps_sum {A : ZA} {s : (Nat → Nat) × Nat} {n : Nat} : ∀ {k : Nat}, k ≤ n → z_sum n (z_it (r_sp A) k s).1 + (z_it (r_sp A) k s).2 = z_sum n s.1 + s.2 := by
  intro k
  induction k with
  | zero => intro _; rfl
  | succ k ih =>
    intro h
    show z_sum n (r_sp A k (z_it (r_sp A) k s)).1 + (r_sp A k (z_it (r_sp A) k s)).2 = _
    rw [r_sp_sum (by omega)]
    exact ih (by omega)
theorem r_sps_b {A : ZA} {s : (Nat → Nat) × Nat} : ∀ {k : Nat}, (∀ c, c < k → (z_it (r_sp A) k s).1 c ≤ A 0 2) ∧ (∀ c, k ≤ c → (z_it (r_sp A) k s).1 c = s.1 c) := by
  intro k
  induction k with
  | zero => exact ⟨fun c h => by omega, fun c h => rfl⟩
  | succ k ih =>
    refine ⟨fun c h => ?_, fun c h => ?_⟩
    · show z_u (z_it (r_sp A) k s).1 k (min ((z_it (r_sp A) k s).1 k) (A 0 2)) c ≤ _
      by_cases e : c = k
      · subst e; rw [z_us]; exact Nat.min_le_right _ _
      · rw [z_un _ _ _ e]; exact ih.1 c (by omega)
    · show z_u (z_it (r_sp A) k s).1 k (min ((z_it (r_sp A) k s).1 k) (A 0 2)) c = _
      rw [z_un _ _ _ (by omega)]; exact ih.2 c (by omega)
theorem r_bt_b {A : ZA} {t : Nat} {w bt : Nat → Nat} (h0 : ∀ i, i < A 0 5 → bt i < A 0 0) : ∀ {k : Nat}, ∀ i, i < A 0 5 → z_it (r_sa A t w) k bt i < A 0 0 := by
  intro k
  induction k with
  | zero => exact h0
  | succ k ih =>
    intro i hi
    show r_sa A t w k (z_it (r_sa A t w) k bt) i < _
    generalize z_it (r_sa A t w) k bt = v at ih
    unfold r_sa
    split
    · next h =>
      by_cases e : i = k
      · subst e; rw [z_us]; have := ih i hi; have h2 := h.2.1; omega
      · rw [z_un _ _ _ e]; exact ih i hi
    · exact ih i hi
/-- what holds at each BAR -/
def z_G (A : ZA) (S : ZS) : Prop := (∀ c, c < A 0 0 → S.1 c ≤ 99) ∧ (∀ i, i < A 0 5 → S.2.1 i < A 0 0)
theorem r_w1_sum {A : ZA} {al : Nat → Nat → Nat} {b : Nat} {w : Nat → Nat} (hW : z_W A) (hR : z_R A) (h : ∀ c, c < A 0 0 → w c ≤ 99) : z_sum (A 0 0) (r_w1 A al b w) ≤ 1260 := by
  obtain ⟨w1, w2, w3, w4, w5, w6, w7, w8, w9, w10⟩ := hW
  have h1 := (z_sum_u (w := w) (k := A 0 1) (v := w (A 0 1) + (r_in A al b (A 0 3)).1) (n := A 0 0)).2 hR.2
  have h2 := z_sum_b h
  have h3 := (r_in_b (al := al) (b := b) w9 (Nat.le_refl _)).1
  have h4 : A 0 0 * 99 ≤ 12 * 99 := Nat.mul_le_mul_right _ w1
  show z_sum (A 0 0) (z_u w (A 0 1) (w (A 0 1) + (r_in A al b (A 0 3)).1)) ≤ _
  omega
theorem r_w2_sum {A : ZA} {al : Nat → Nat → Nat} {b : Nat} {w : Nat → Nat} (hW : z_W A) (hR : z_R A) (h : ∀ c, c < A 0 0 → w c ≤ 99) : z_sum (A 0 0) (r_w2 A al b w) ≤ 1260 := by
  unfold r_w2
  rw [r_fls_sum (by have := hR.1; omega)]
  exact r_w1_sum hW hR h
theorem r_w3_sum {A : ZA} {w : Nat → Nat} (hR : z_R A) : z_sum (A 0 0) (r_w3 A w) + w (A 0 0 - 1) / 2 = z_sum (A 0 0) w := by
  have h1 := (z_sum_u (w := w) (k := A 0 0 - 1) (v := w (A 0 0 - 1) - w (A 0 0 - 1) / 2) (n := A 0 0)).2 (by have := hR.1; omega)
  show z_sum (A 0 0) (z_u w (A 0 0 - 1) (w (A 0 0 - 1) - w (A 0 0 - 1) / 2)) + _ = _
  omega
theorem r_w4_sum {A : ZA} {al : Nat → Nat → Nat} {b : Nat} {w : Nat → Nat} (hW : z_W A) (hR : z_R A) (h : ∀ c, c < A 0 0 → w c ≤ 99) : z_sum (A 0 0) (r_w4 A al b w).1 + (r_w4 A al b w).2 + r_w2 A al b w (A 0 0 - 1) / 2 ≤ 1260 := by
  obtain ⟨w1, w2, w3, w4, w5, w6, w7, w8, w9, w10, w11, w12⟩ := id hW
  have h1 := r_drs_sum (A := A) (s := (r_w3 A (r_w2 A al b w), 0)) (n := A 0 0) (fun i hi => (w12 i hi).1) (Nat.le_refl _)
  have h2 := r_w3_sum (A := A) (w := r_w2 A al b w) hR
  have h3 := r_w2_sum (al := al) (b := b) hW hR h
  have e : (r_w3 A (r_w2 A al b w), 0).1 = r_w3 A (r_w2 A al b w) := rfl
  show z_sum (A 0 0) (z_it (r_dr A) (A 0 6) (r_w3 A (r_w2 A al b w), 0)).1 + (z_it (r_dr A) (A 0 6) (r_w3 A (r_w2 A al b w), 0)).2 + _ ≤ _
  rw [h1]
  show z_sum (A 0 0) (r_w3 A (r_w2 A al b w)) + 0 + _ ≤ _
  omega
theorem r_w5_sum {A : ZA} {al : Nat → Nat → Nat} {b : Nat} {w : Nat → Nat} : z_sum (A 0 0) (r_w5 A al b w).1 + (r_w5 A al b w).2 = z_sum (A 0 0) (r_w4 A al b w).1 := by
  have h1 := r_sps_sum (A := A) (s := ((r_w4 A al b w).1, 0)) (n := A 0 0) (Nat.le_refl _)
  show z_sum (A 0 0) (z_it (r_sp A) (A 0 0) ((r_w4 A al b w).1, 0)).1 + (z_it (r_sp A) (A 0 0) ((r_w4 A al b w).1, 0)).2 = _
  rw [h1]; rfl
theorem r_bar_G {A : ZA} {al : Nat → Nat → Nat} {b : Nat} {S : ZS} (hW : z_W A) (hG : z_G A S) : z_G A (r_bar A al b S) :=
  ⟨fun c hc => Nat.le_trans (r_sps_b.1 c hc) hW.2.2.2.2.2.2.1, r_bt_b hG.2⟩
theorem r_v_G {A : ZA} {al : Nat → Nat → Nat} (hW : z_W A) : ∀ b, z_G A (r_v A al b)
  | 0 => ⟨fun c hc => (hW.2.2.2.2.2.2.2.1 c hc).2.1, fun i hi => (hW.2.2.2.2.2.2.2.2.2.2.1 i hi).1⟩
  | b + 1 => r_bar_G hW (r_v_G hW b)
theorem r_on_b {A : ZA} {al : Nat → Nat → Nat} {b k : Nat} {w : Nat → Nat} (hW : z_W A) (hR : z_R A) (h : ∀ c, c < A 0 0 → w c ≤ 99) : r_on A al b w k ≤ 1260 := by
  have h1 := r_w4_sum (al := al) (b := b) hW hR h
  have h2 := r_w5_sum (A := A) (al := al) (b := b) (w := w)
  have h3 := r_in_b (al := al) (b := b) hW.2.2.2.2.2.2.2.2.1 (Nat.le_refl _)
  have h4 := hW.2.1
  unfold r_on
  split
  · omega
  · split
    · omega
    · split
      · omega
      · split <;> omega
theorem r_v_s {A : ZA} {al : Nat → Nat → Nat} (hW : z_W A) (hR : z_R A) (k : Nat) : ∀ b, (r_v A al b).2.2 k ≤ 1260 * b
  | 0 => Nat.le_refl _
  | b + 1 => by
    have h1 := r_v_s hW hR k (al := al) b
    have h2 := r_on_b (al := al) (b := b + 1) (k := k) hW hR (r_v_G (al := al) hW b).1
    show (r_v A al b).2.2 k + r_on A al (b + 1) (r_v A al b).1 k ≤ _
    omega
/-- what was played ahead is all that counts -/
theorem r_in_cg {A : ZA} {al al' : Nat → Nat → Nat} {b b' : Nat} (h : ∀ d, d < A 0 3 → al d b = al' d b') : ∀ {k : Nat}, k ≤ A 0 3 → r_in A al b k = r_in A al' b' k := by
  intro k
  induction k with
  | zero => intro _; rfl
  | succ k ih =>
    intro q
    show (if al k b = 0 then (r_in A al b k).1 + A 4 k else (r_in A al b k).1, if al k b = 3 then 1 else (r_in A al b k).2) = (if al' k b' = 0 then (r_in A al' b' k).1 + A 4 k else (r_in A al' b' k).1, if al' k b' = 3 then 1 else (r_in A al' b' k).2)
    rw [h k (by omega), ih (by omega)]
theorem r_bar_cg {A : ZA} {al al' : Nat → Nat → Nat} {b b' : Nat} {S : ZS} (h : ∀ d, d < A 0 3 → al d b = al' d b') : r_bar A al b S = r_bar A al' b' S := by
  have e := r_in_cg h (Nat.le_refl _)
  unfold r_bar r_on r_bt r_w5 r_w4 r_w2 r_w1
  rw [e]
theorem r_v_cg {A : ZA} {al al' : Nat → Nat → Nat} : ∀ {b : Nat}, (∀ j, j < b → ∀ d, d < A 0 3 → al d (j + 1) = al' d (j + 1)) → r_v A al b = r_v A al' b
  | 0, _ => rfl
  | b + 1, h => by
    show r_bar A al (b + 1) (r_v A al b) = r_bar A al' (b + 1) (r_v A al' b)
    rw [r_v_cg (fun j hj => h j (by omega)), r_bar_cg (h b (by omega))]
