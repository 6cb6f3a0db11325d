/-! ===== pure: both together; what is only asked ===== -/
abbrev z_q (x : Int32) (n : Nat) : Prop := ¬ x < 0 ∧ x < nI n
theorem z_q_of {x : Int32} {n : Nat} (hn : n < 2 ^ 31) (h : z_q x n) : ∃ j, j < n ∧ x = nI j := by
  rcases pk_ix x hn with h1 | h1 | h1
  · exact absurd h1 h.1
  · exact absurd h.2 (by rw [Int32.lt_iff_toInt_lt]; rw [Int32.le_iff_toInt_le] at h1; omega)
  · exact h1
theorem z_q_nI {j n : Nat} (hj : j < 2 ^ 31) (hn : n < 2 ^ 31) : z_q (nI j) n ↔ j < n := ⟨fun h => (nI_ltI hj hn).mp h.2, fun h => ⟨nI_pos hj, nI_lt h hn⟩⟩
theorem z_rng (x : Int32) (n : Nat) : (if x < 0 then (some 0 : Option Int32) else if x < nI n then some 1 else some 0) = some (if z_q x n then 1 else 0) := by
  by_cases h : x < 0
  · rw [if_pos h, if_neg (fun q => q.1 h)]
  · rw [if_neg h]
    by_cases h2 : x < nI n
    · rw [if_pos h2, if_pos ⟨h, h2⟩]
    · rw [if_neg h2, if_neg (fun q => h2 q.2)]
theorem z_isIn (x : Int32) (c : Int64) (n : Nat) (hc : c.toInt = (n : Int) - 1) (hn : n < 2 ^ 31) : f_Mo_isIn x.toInt64 0 c = some (if z_q x n then 1 else 0) := by
  unfold f_Mo_isIn
  have e1 : x.toInt64 < 0 ↔ x < 0 := by
    rw [Int64.lt_iff_toInt_lt, Int32.lt_iff_toInt_lt, Int32.toInt_toInt64]; exact Iff.rfl
  have e2 : c < x.toInt64 ↔ ¬ x < nI n := by
    rw [Int64.lt_iff_toInt_lt, Int32.lt_iff_toInt_lt, Int32.toInt_toInt64, hc, nI_toInt hn]; omega
  by_cases h : x < 0
  · rw [if_pos (e1.mpr h), if_neg (fun q => q.1 h)]
  · rw [if_neg (fun q => h (e1.mp q))]
    by_cases h2 : x < nI n
    · rw [if_neg (fun q => (e2.mp q) h2), if_pos ⟨h, h2⟩]
    · rw [if_pos (e2.mpr h2), if_neg (fun q => h2 q.2)]
theorem z_isN (x : Int32) {n : Nat} (hn : n < 2 ^ 30) : f_Mo_isIn x.toInt64 0 (nI n - 1).toInt64 = some (if z_q x n then 1 else 0) := by
  refine z_isIn x _ n ?_ (by omega)
  rw [Int32.toInt_toInt64]
  have := pk_sub_toInt (a := n) (b := 1) hn (by decide)
  rw [show (1 : Int32) = nI 1 from rfl, this]; rfl
theorem z_isM (x : Int32) (m : Nat) (hm : m < 2 ^ 30) : f_Mo_isIn x.toInt64 0 (lN m) = some (if z_q x (m + 1) then 1 else 0) := z_isIn x _ (m + 1) (by rw [lN_toInt (by omega)]; omega) (by omega)
theorem z_ifb (c : Prop) [Decidable c] : (if c then (1 : Int32) else 0) = 0 ∨ (if c then (1 : Int32) else 0) = 1 := by split <;> simp
def z_EN (nm : Nat → Nat → Nat) (r : Nat) : Nat := z_it (fun k v => 27 * v + nm r k) (nm r 6) 0
/-- what the class holds of an opera, its parts, its run -/
def z_CB (o : Nat) (A : ZA) (nm : Nat → Nat → Nat) (P : ZP) (M : SM) : Prop :=
  (o = 7 ∨ o = 57) ∧ jop (M.1 0 8) = o ∧ z_OC o A M ∧ z_TC o (A 0 3) P M ∧ (0 < A 0 0 → z_RC A (r_v A (z_pa P)) 60 M) ∧
  (∀ i w, i < 3 → w < A 0 (3 + i) → ∀ k, k < 6 → M.1 (o + 6 + (8 * i + w)) k = nI (if nm (8 * i + w) k = 0 then 0 else nm (8 * i + w) k + 96))
/-- the same of the reference -/
def z_MB (A : ZA) (nm : Nat → Nat → Nat) (P : ZP) (M : SM) : Prop :=
  z_OR A M ∧ z_TR (A 0 3) P M ∧ (0 < A 0 0 → z_RR A (r_v A (z_pa P)) 60 M) ∧ z_NS M ∧
  (∀ i w, i < 3 → w < A 0 (3 + i) → M.2 386 (24 + 8 * i + w) = lN (z_EN nm (8 * i + w)))
/-- an opera that stands -/
def z_WB (A : ZA) (nm : Nat → Nat → Nat) (P : ZP) : Prop :=
  z_W A ∧ z_WP (A 0 3) P ∧ (0 < A 0 0 → z_R A) ∧ (A 0 0 = 0 → A 0 3 = 0 ∧ A 0 4 = 0 ∧ A 0 5 = 0 ∧ A 0 6 = 0) ∧
  (∀ i w, i < 3 → w < A 0 (3 + i) → 1 ≤ nm (8 * i + w) 6 ∧ nm (8 * i + w) 6 ≤ 6 ∧ ∀ k, k < 6 → nm (8 * i + w) k < 27 ∧ (nm (8 * i + w) k = 0 ↔ nm (8 * i + w) 6 ≤ k))
section
variable {o : Nat} {A : ZA} {nm : Nat → Nat → Nat} {P : ZP} {M N : SM}
theorem c_isDesk (hW : z_WB A nm P) (h : z_CB o A nm P M) (x : Int32) : f_Sp_isDesk 0 x M = some (if z_q x (A 0 3) then 1 else 0) := by
  unfold f_Sp_isDesk
  rw [h.2.1, h.2.2.1.2.2.2.1]
  exact z_rng x _
theorem c_isCell (hW : z_WB A nm P) (h : z_CB o A nm P M) (x : Int32) : f_Sp_isCell 0 x M = some (if z_q x (A 0 0) then 1 else 0) := by
  unfold f_Sp_isCell
  rw [h.2.1, h.2.2.1.1]
  exact z_rng x _
theorem c_isBar (x : Int32) : f_Sp_isBar x = some (if z_q x 61 then 1 else 0) := by
  unfold f_Sp_isBar
  have e : 60 < x ↔ ¬ x < nI 61 := by
    rw [Int32.lt_iff_toInt_lt, Int32.lt_iff_toInt_lt]
    show (60 : Int) < _ ↔ ¬ _ < (61 : Int)
    omega
  by_cases h : x < 0
  · rw [if_pos h, if_neg (fun q => q.1 h)]
  · rw [if_neg h]
    by_cases h2 : x < nI 61
    · rw [if_neg (fun q => (e.mp q) h2), if_pos ⟨h, h2⟩]
    · rw [if_pos (e.mpr h2), if_neg (fun q => h2 q.2)]
theorem c_holds {a n : Nat} (h : M.1 a 2 = nI n) (x : Int32) : f_St_holds a x M = some (if z_q x n then 1 else 0) := by
  unfold f_St_holds
  rw [h]
  exact z_rng x _
theorem m_isDesk (hW : z_WB A nm P) (h : z_MB A nm P N) (x : Int32) : f_Mo_isDesk 366 x N = some (if z_q x (A 0 3) then 1 else 0) := by
  have := hW.1.2.1
  unfold f_Mo_isDesk
  rw [m_desks hW.1 h.1]
  show (f_Mo_isIn x.toInt64 0 (nI (A 0 3) - 1).toInt64).bind _ = _
  rw [z_isN x (by omega)]
  show (bchk _).bind _ = _
  rw [z_bchk (z_ifb _)]; rfl
theorem m_isCell (hW : z_WB A nm P) (h : z_MB A nm P N) (x : Int32) : f_Mo_isCell 366 x N = some (if z_q x (A 0 0) then 1 else 0) := by
  have := hW.1.1
  unfold f_Mo_isCell
  rw [h.1.1, z_isN x (by omega)]
  show (bchk _).bind _ = _
  rw [z_bchk (z_ifb _)]; rfl
theorem m_isBar (x : Int32) : f_Mo_isBar x = some (if z_q x 61 then 1 else 0) := by
  unfold f_Mo_isBar
  rw [show (60 : Int64) = lN 60 from rfl, z_isM x 60 (by decide)]
  show (bchk _).bind _ = _
  rw [z_bchk (z_ifb _)]; rfl
theorem m_isBoat (hW : z_WB A nm P) (h : z_MB A nm P N) (x : Int32) : f_Mo_isBoat 366 x N = some (if z_q x (A 0 5) then 1 else 0) := by
  have := hW.1.2.2.2.1
  unfold f_Mo_isBoat
  rw [jm_28]
  show (aI N 385 (nI 6)).bind _ = _
  rw [zi_385 _ (by decide), h.1.2.2.2.2.2.1]
  show (f_Mo_isIn x.toInt64 0 (nI (A 0 5) - 1).toInt64).bind _ = _
  rw [z_isN x (by omega)]
  show (bchk _).bind _ = _
  rw [z_bchk (z_ifb _)]; rfl
theorem z_b1 {α : Type} {c : Prop} [Decidable c] {f g : Option α} (h : c) : (if (if c then (1 : Int32) else 0) = 0 then f else g) = g := by rw [if_pos h]; rfl
theorem z_b0 {α : Type} {c : Prop} [Decidable c] {f g : Option α} (h : ¬ c) : (if (if c then (1 : Int32) else 0) = 0 then f else g) = f := by rw [if_neg h]; rfl
theorem c_water (hW : z_WB A nm P) (h : z_CB o A nm P M) {c b : Nat} (hc : c < A 0 0) (hb : b < 61) : f_Ru_water 132 (nI b) (nI c) M = some (nI ((r_v A (z_pa P) b).1 c)) := by
  have h0 := hW.1.1
  unfold f_Ru_water
  rw [jp_132_0, zc_133 _ hb (by omega), (h.2.2.2.2.1 (by omega) b (by omega)).1 c hc]; rfl
theorem c_boatC (hW : z_WB A nm P) (h : z_CB o A nm P M) {i b : Nat} (hi : i < A 0 5) (hb : b < 61) : f_Ru_boatCell 132 (nI b) (nI i) M = some (nI ((r_v A (z_pa P) b).2.1 i)) := by
  have h0 := hW.1.2.2.2.1
  have h00 : 0 < A 0 0 := Nat.pos_of_ne_zero (fun e => by have := (hW.2.2.2.1 e).2.2.1; omega)
  unfold f_Ru_boatCell
  rw [jp_132_1, zc_195 _ hb (by omega), (h.2.2.2.2.1 h00 b (by omega)).2.1 i hi]; rfl
theorem m_deepA (hW : z_WB A nm P) (h : z_MB A nm P N) {c b : Nat} (hc : c < A 0 0) (hb : b < 61) : aI N 401 (nI (12 * b + c)) = some (nI ((r_v A (z_pa P) b).1 c)) := by
  have h0 := hW.1.1
  rw [zi_401 _ (by omega), (h.2.2.1 (by omega) b (by omega)).1 c hc]
theorem m_boatI (hW : z_WB A nm P) (h : z_MB A nm P N) {i b : Nat} (hi : i < A 0 5) (hb : b < 61) : aI N 402 (nI (4 * b + i)) = some (nI ((r_v A (z_pa P) b).2.1 i)) := by
  have h0 := hW.1.2.2.2.1
  have h00 : 0 < A 0 0 := Nat.pos_of_ne_zero (fun e => by have := (hW.2.2.2.1 e).2.2.1; omega)
  rw [zi_402 _ (by omega), (h.2.2.1 h00 b (by omega)).2.1 i hi]
theorem g_deep (hW : z_WB A nm P) (h : z_CB o A nm P M) (k : z_MB A nm P N) (x y : Int32) : ∃ v, f_Sp_deep 0 x y M = some v ∧ f_Mo_deep 366 x y N = some v := by
  have h0 := hW.1.1
  unfold f_Sp_deep f_Mo_deep
  rw [c_isCell hW h, m_isCell hW k, c_isBar, m_isBar]
  show ∃ v, (if (if z_q x (A 0 0) then (1 : Int32) else 0) = 0 then _ else _) = _ ∧ (if (if z_q x (A 0 0) then (1 : Int32) else 0) = 0 then _ else _) = _
  by_cases q : z_q x (A 0 0)
  · rw [z_b1 q, z_b1 q]
    show ∃ v, (if (if z_q y 61 then (1 : Int32) else 0) = 0 then _ else _) = _ ∧ (if (if z_q y 61 then (1 : Int32) else 0) = 0 then _ else _) = _
    by_cases r : z_q y 61
    · rw [z_b1 r, z_b1 r]
      obtain ⟨c, hc, rfl⟩ := z_q_of (by omega) q
      obtain ⟨b, hb, rfl⟩ := z_q_of (by decide) r
      rw [jp_0_6, c_water hW h hc hb, jm_59, zl_12, pk_mul, nI_add, m_deepA hW k hc hb]
      exact ⟨_, rfl, rfl⟩
    · rw [z_b0 r, z_b0 r]; exact ⟨_, rfl, rfl⟩
  · rw [z_b0 q, z_b0 q]; exact ⟨_, rfl, rfl⟩
theorem g_cell (hW : z_WB A nm P) (h : z_CB o A nm P M) (k : z_MB A nm P N) (x y : Int32) : ∃ v, f_Sp_cell 0 x y M = some v ∧ f_Mo_cell 366 x y N = some v := by
  have h0 := hW.1.1
  unfold f_Sp_cell f_Mo_cell
  rw [c_isCell hW h, m_isCell hW k]
  show ∃ v, (if (if z_q x (A 0 0) then (1 : Int32) else 0) = 0 then _ else _) = _ ∧ (if (if z_q x (A 0 0) then (1 : Int32) else 0) = 0 then _ else _) = _
  by_cases q : z_q x (A 0 0)
  · rw [z_b1 q, z_b1 q]
    obtain ⟨c, hc, rfl⟩ := z_q_of (by omega) q
    have ho := h.1
    have e1 := h.2.2.1.2.2.2.2.2.2.2.1 c hc
    have e2 := k.1.2.2.2.2.2.2.2.1 c hc
    rw [h.2.1, jo_5 ho, jo_6 ho, jo_7 ho, zao_1 ho _ (by omega), zao_2 ho _ (by omega), zao_3 ho _ (by omega), e1.1, e1.2.1, e1.2.2, jm_32, jm_33, jm_34, zl_12, nI_add, zi_387 _ (by omega), zi_388 _ (by omega), zi_389 _ (by omega), e2.1, e2.2.1, e2.2.2]
    by_cases r : y = 0
    · simp only [if_pos r]; exact ⟨_, rfl, rfl⟩
    · simp only [if_neg r]
      by_cases r : y = 1
      · simp only [if_pos r]; exact ⟨_, rfl, rfl⟩
      · simp only [if_neg r]
        by_cases r : y = 2
        · simp only [if_pos r]; exact ⟨_, rfl, rfl⟩
        · simp only [if_neg r]; exact ⟨_, rfl, rfl⟩
  · rw [z_b0 q, z_b0 q]; exact ⟨_, rfl, rfl⟩
theorem g_sums (hW : z_WB A nm P) (h : z_CB o A nm P M) (k : z_MB A nm P N) (x y : Int32) : ∃ v, f_Sp_sums 0 x y M = some v ∧ f_Mo_sums 366 x y N = some v := by
  have h0 := hW.1.1
  unfold f_Sp_sums f_Mo_sums
  rw [h.2.1, h.2.2.1.1, k.1.1]
  by_cases e : A 0 0 = 0
  · rw [e]; exact ⟨_, rfl, rfl⟩
  · rw [if_neg (nI_ne0 (by omega) (by omega)), if_pos (show (0 : Int32) < nI (A 0 0) from nI_lt (a := 0) (by omega) (by omega)), c_isBar, m_isBar]
    show ∃ v, (if (if z_q x 61 then (1 : Int32) else 0) = 0 then _ else _) = _ ∧ (if (if z_q x 61 then (1 : Int32) else 0) = 0 then _ else _) = _
    by_cases q : z_q x 61
    · rw [z_b1 q, z_b1 q, show (5 : Int64) = lN 5 from rfl, z_isM y 5 (by decide)]
      show ∃ v, _ ∧ (if (if z_q y 6 then (1 : Int32) else 0) = 0 then _ else _) = _
      by_cases r : z_q y 6
      · rw [z_b1 r, if_neg r.1, if_pos (show y < 6 from r.2)]
        obtain ⟨b, hb, rfl⟩ := z_q_of (by decide) q
        obtain ⟨j, hj, rfl⟩ := z_q_of (by decide) r
        have e1 := h.2.2.2.2.1 (by omega) b (by omega)
        have e2 := k.2.2.1 (by omega) b (by omega)
        have e3 : M.1 (258 + b) j = N.1 403 (6 * b + j) := by
          by_cases c : j < 4
          · rw [e1.2.2.1 j c, e2.2.2.1 j c]
          · by_cases c4 : j = 4
            · subst c4; rw [e1.2.2.2.1, e2.2.2.2.1]
            · have c5 : j = 5 := by omega
              subst c5; rw [e1.2.2.2.2, e2.2.2.2.2]
        unfold f_Ru_measure
        rw [jp_0_6, jp_132_2, zc_257 _ hb hj, jm_61, zl_6, pk_mul, nI_add, zi_403 _ (by omega), e3]
        exact ⟨_, rfl, rfl⟩
      · rw [z_b0 r]
        by_cases r1 : y < 0
        · rw [if_pos r1]; exact ⟨_, rfl, rfl⟩
        · rw [if_neg r1, if_neg (fun (t : y < 6) => r ⟨r1, t⟩)]; exact ⟨_, rfl, rfl⟩
    · rw [z_b0 q, z_b0 q]; exact ⟨_, rfl, rfl⟩
theorem g_fault {f p : Int32} (h1 : M.1 3 5 = f) (h2 : M.1 3 6 = p) (k1 : N.1 366 7 = f) (k2 : N.1 366 8 = p) (x : Int32) : ∃ v, f_Sp_fault 0 x M = some v ∧ f_Mo_fault 366 x N = some v := by
  unfold f_Sp_fault f_Mo_fault
  rw [jp_0_1, h1, h2, k1, k2]
  by_cases r : x = 0
  · simp only [if_pos r]; exact ⟨_, rfl, rfl⟩
  · simp only [if_neg r]
    by_cases r : x = 1
    · simp only [if_pos r]; exact ⟨_, rfl, rfl⟩
    · simp only [if_neg r]; exact ⟨_, rfl, rfl⟩
theorem c_sluices (hW : z_WB A nm P) (h : z_CB o A nm P M) : f_Op_sluices o M = some (nI (z_sum (A 0 0) (A 3))) := by
  have hc0 := hW.1.1
  unfold f_Op_sluices
  have : z_ok ((fun n c (s : Int32) => lp_Op_sluices_4 o M n s c) jfuel (nI 0) (nI 0)) (fun r => r = nI (z_sum (A 0 0) (A 3))) := by
    refine z_loop (σ := Int32) (τ := Int32) (fun n c s => lp_Op_sluices_4 o M n s c) (fun c s => s = nI (z_sum c (A 3))) _ (A 0 0) ?_ ?_ jfuel 0 (nI 0) (Nat.zero_le _) (by rw [z_jf]; omega) rfl
    · intro n c s hc hI k
      show z_ok (lp_Op_sluices_4 o M (n + 1) s (nI c)) _
      rw [lp_Op_sluices_4, h.2.2.1.1, jo_7 h.1]
      refine z_pos (nI_lt hc (by omega)) ?_
      refine z_eq (zao_3 h.1 _ (by omega)) ?_
      rw [(h.2.2.1.2.2.2.2.2.2.2.1 c hc).2.2, hI, nI_add, nI_1]
      exact k _ rfl
    · intro n s hI
      show z_ok (lp_Op_sluices_4 o M (n + 1) s (nI (A 0 0))) _
      rw [lp_Op_sluices_4, h.2.2.1.1]
      exact z_neg (nI_nlt (Nat.le_refl _) (by omega)) (z_some hI)
  obtain ⟨r, e, h⟩ := this
  have e : lp_Op_sluices_4 o M jfuel (nI 0) (nI 0) = some r := e
  show (lp_Op_sluices_4 o M jfuel (nI 0) (nI 0)).bind _ = _
  rw [e, h]; rfl
theorem m_sluices (hW : z_WB A nm P) (h : z_MB A nm P N) : f_Mo_sluiceMany 366 N = some (nI (z_sum (A 0 0) (A 3))) := by
  have hc0 := hW.1.1
  unfold f_Mo_sluiceMany
  have : z_ok ((fun n c (s : Int32) => lp_Mo_sluiceMany_4 366 N n s c) jfuel (nI 0) (nI 0)) (fun r => r = nI (z_sum (A 0 0) (A 3))) := by
    refine z_loop (σ := Int32) (τ := Int32) (fun n c s => lp_Mo_sluiceMany_4 366 N n s c) (fun c s => s = nI (z_sum c (A 3))) _ (A 0 0) ?_ ?_ jfuel 0 (nI 0) (Nat.zero_le _) (by rw [z_jf]; omega) rfl
    · intro n c s hc hI k
      show z_ok (lp_Mo_sluiceMany_4 366 N (n + 1) s (nI c)) _
      rw [lp_Mo_sluiceMany_4, h.1.1, jm_34, zl_12, nI_add]
      refine z_pos (nI_lt hc (by omega)) ?_
      refine z_eq (zi_389 _ (by omega)) ?_
      rw [(h.1.2.2.2.2.2.2.2.1 c hc).2.2, hI, nI_add, nI_1]
      exact k _ rfl
    · intro n s hI
      show z_ok (lp_Mo_sluiceMany_4 366 N (n + 1) s (nI (A 0 0))) _
      rw [lp_Mo_sluiceMany_4, h.1.1]
      exact z_neg (nI_nlt (Nat.le_refl _) (by omega)) (z_some hI)
  obtain ⟨r, e, h⟩ := this
  have e : lp_Mo_sluiceMany_4 366 N jfuel (nI 0) (nI 0) = some r := e
  show (lp_Mo_sluiceMany_4 366 N jfuel (nI 0) (nI 0)).bind _ = _
  rw [e, h]; rfl
theorem c_size (hW : z_WB A nm P) (h : z_CB o A nm P M) {d : Nat} (hd : d < A 0 3) : f_Pa_size (o + 39) (nI d) M = some (nI (P.1 d)) := by
  have := hW.1.2.1
  unfold f_Pa_size
  rw [jo_39_1 h.1, zao_49 h.1 _ (by omega), (h.2.2.2.1 d hd).1]; rfl
theorem c_longest (hW : z_WB A nm P) (h : z_CB o A nm P M) : f_Pa_longest (o + 39) (nI (A 0 3)) M = some (nI (z_it (fun d s => max s (P.1 d)) (A 0 3) 0)) := by
  have hd8 := hW.1.2.1
  unfold f_Pa_longest
  have : z_ok ((fun n c (s : Int32) => lp_Pa_longest_4 (o + 39) (nI (A 0 3)) M n s c) jfuel (nI 0) (nI 0)) (fun r => r = nI (z_it (fun d s => max s (P.1 d)) (A 0 3) 0)) := by
    refine z_loop (σ := Int32) (τ := Int32) (fun n c s => lp_Pa_longest_4 (o + 39) (nI (A 0 3)) M n s c) (fun c s => s = nI (z_it (fun d s => max s (P.1 d)) c 0) ∧ z_it (fun d s => max s (P.1 d)) c 0 ≤ 60) _ (A 0 3) ?_ ?_ jfuel 0 (nI 0) (Nat.zero_le _) (by rw [z_jf]; omega) ⟨rfl, Nat.zero_le _⟩
    · intro n c s hc hI k
      have hp := (hW.2.1 c hc).1
      show z_ok (lp_Pa_longest_4 (o + 39) (nI (A 0 3)) M (n + 1) s (nI c)) _
      rw [lp_Pa_longest_4]
      refine z_pos (nI_lt hc (by omega)) ?_
      refine z_eq (c_size hW h hc) ?_
      rw [hI.1, z_jmax (by omega) (by omega), nI_1]
      exact k _ ⟨rfl, Nat.max_le.mpr ⟨hI.2, hp⟩⟩
    · intro n s hI
      show z_ok (lp_Pa_longest_4 (o + 39) (nI (A 0 3)) M (n + 1) s (nI (A 0 3))) _
      rw [lp_Pa_longest_4]
      exact z_neg (nI_nlt (Nat.le_refl _) (by omega)) (z_some hI.1)
  obtain ⟨r, e, h⟩ := this
  have e : lp_Pa_longest_4 (o + 39) (nI (A 0 3)) M jfuel (nI 0) (nI 0) = some r := e
  show (lp_Pa_longest_4 (o + 39) (nI (A 0 3)) M jfuel (nI 0) (nI 0)).bind _ = _
  rw [e, h]; rfl
theorem m_longest (hW : z_WB A nm P) (h : z_MB A nm P N) : f_Mo_longest 366 N = some (nI (z_it (fun d s => max s (P.1 d)) (A 0 3) 0)) := by
  have hd8 := hW.1.2.1
  unfold f_Mo_longest
  have : z_ok ((fun n c (s : Int32) => lp_Mo_longest_4 366 N n s c) jfuel (nI 0) (nI 0)) (fun r => r = nI (z_it (fun d s => max s (P.1 d)) (A 0 3) 0)) := by
    refine z_loop (σ := Int32) (τ := Int32) (fun n c s => lp_Mo_longest_4 366 N n s c) (fun c s => s = nI (z_it (fun d s => max s (P.1 d)) c 0) ∧ z_it (fun d s => max s (P.1 d)) c 0 ≤ 60) _ (A 0 3) ?_ ?_ jfuel 0 (nI 0) (Nat.zero_le _) (by rw [z_jf]; omega) ⟨rfl, Nat.zero_le _⟩
    · intro n c s hc hI k
      have hp := (hW.2.1 c hc).1
      show z_ok (lp_Mo_longest_4 366 N (n + 1) s (nI c)) _
      rw [lp_Mo_longest_4]
      refine z_eq (m_desks hW.1 h.1) ?_
      refine z_pos (nI_lt hc (by omega)) ?_
      refine z_eq (m_bars hd8 h.2.1 hc) ?_
      refine z_eq (r := nI (max (z_it (fun d s => max s (P.1 d)) c 0) (P.1 c))) ?_ ?_
      · rw [hI.1]
        by_cases q : z_it (fun d s => max s (P.1 d)) c 0 < P.1 c
        · rw [if_pos (nI_lt q (by omega)), m_bars hd8 h.2.1 hc, Nat.max_eq_right (by omega)]; rfl
        · rw [if_neg (nI_nlt (by omega) (by omega)), Nat.max_eq_left (by omega)]
      · rw [nI_1]
        exact k _ ⟨rfl, Nat.max_le.mpr ⟨hI.2, hp⟩⟩
    · intro n s hI
      show z_ok (lp_Mo_longest_4 366 N (n + 1) s (nI (A 0 3))) _
      rw [lp_Mo_longest_4]
      refine z_eq (m_desks hW.1 h.1) ?_
      exact z_neg (nI_nlt (Nat.le_refl _) (by omega)) (z_some hI.1)
  obtain ⟨r, e, h⟩ := this
  have e : lp_Mo_longest_4 366 N jfuel (nI 0) (nI 0) = some r := e
  show (lp_Mo_longest_4 366 N jfuel (nI 0) (nI 0)).bind _ = _
  rw [e, h]; rfl
theorem g_has {H : Nat} (hW : z_WB A nm P) (h : z_CB o A nm P M) (k : z_MB A nm P N) (h1 : M.1 108 4 = nI H) (k1 : N.1 366 63 = nI H) (x : Int32) : ∃ v, f_Sp_has 0 x M = some v ∧ f_Mo_has 366 x N = some v := by
  obtain ⟨u1, u2, u3, u4, u5, u6, u7, _⟩ := h.2.2.1
  obtain ⟨v1, v2, v3, v4, v5, v6, v7, _⟩ := k.1
  have ho := h.1
  have hbk := hW.1.2.2.2.2.2.1
  have hbk2 := hW.1.2.2.2.2.2.2.1
  have e7 : z_ok (aI N 396 (nI 1)) (fun v => (if v = 0 then some 99 else (aI N 396 (nI 1)).bind fun v17 => some v17) = some (nI (A 0 2))) := by
    rw [zi_396 _ (by decide)]
    refine z_some ?_
    rcases v3 with v3 | ⟨_, w2, w3⟩
    · rw [v3, if_neg (nI_ne0 (by omega) (by omega))]; rfl
    · rw [w3, if_pos rfl, w2]; rfl
  obtain ⟨w, w1, w2⟩ := e7
  unfold f_Sp_has f_Mo_has
  rw [h.2.1, u1, u2, u3, u4, jo_10 ho, jo_11 ho, jo_12 ho, jo_13 ho, u5, u6, u7, jp_0_5, h1, v1, k1, c_sluices hW h, m_sluices hW k, c_longest hW h, m_longest hW k, m_desks hW.1 k.1, jm_28, jm_40, jm_41]
  rw [show (5 : Int32) = nI 5 from rfl, show (6 : Int32) = nI 6 from rfl, show (7 : Int32) = nI 7 from rfl, show (1 : Int32) = nI 1 from rfl, zi_385 _ (by decide), zi_385 _ (by decide), zi_385 _ (by decide), v5, v6, v7, zi_395 _ (by decide), v2, w1]
  show ∃ v, _ ∧ (if x = 0 then _ else if x = nI 1 then _ else if x = 2 then _ else if x = 3 then _ else if x = 4 then _ else if x = nI 5 then _ else if x = nI 6 then _ else if x = nI 7 then (if w = 0 then some 99 else (some w).bind _) else _) = _
  rw [w1] at w2
  rw [w2]
  by_cases r : x = 0
  · simp only [if_pos r]; exact ⟨_, rfl, rfl⟩
  simp only [if_neg r]
  by_cases r : x = nI 1
  · simp only [if_pos r]; exact ⟨_, rfl, rfl⟩
  simp only [if_neg r]
  by_cases r : x = 2
  · simp only [if_pos r]; exact ⟨_, rfl, rfl⟩
  simp only [if_neg r]
  by_cases r : x = 3
  · simp only [if_pos r]; exact ⟨_, rfl, rfl⟩
  simp only [if_neg r]
  by_cases r : x = 4
  · simp only [if_pos r]; exact ⟨_, rfl, rfl⟩
  simp only [if_neg r]
  by_cases r : x = nI 5
  · simp only [if_pos r]; exact ⟨_, rfl, rfl⟩
  simp only [if_neg r]
  by_cases r : x = nI 6
  · simp only [if_pos r]; exact ⟨_, rfl, rfl⟩
  simp only [if_neg r]
  by_cases r : x = nI 7
  · simp only [if_pos r]; exact ⟨_, rfl, rfl⟩
  simp only [if_neg r]
  by_cases r : x = 8
  · simp only [if_pos r]; exact ⟨_, rfl, rfl⟩
  simp only [if_neg r]
  by_cases r : x = 9
  · simp only [if_pos r]; exact ⟨_, rfl, rfl⟩
  simp only [if_neg r]; exact ⟨_, rfl, rfl⟩
end
