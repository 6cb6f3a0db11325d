/-! ===== pure: what is only asked, the rest ===== -/
theorem z_isIn1 (y : Int32) : f_Mo_isIn y.toInt64 (-1) 60 = some (if y < -1 ∨ 60 < y then 0 else 1) := by
  unfold f_Mo_isIn
  have e1 : y.toInt64 < -1 ↔ y < -1 := by
    rw [Int64.lt_iff_toInt_lt, Int32.lt_iff_toInt_lt, Int32.toInt_toInt64]; exact Iff.rfl
  have e2 : 60 < y.toInt64 ↔ 60 < y := by
    rw [Int64.lt_iff_toInt_lt, Int32.lt_iff_toInt_lt, Int32.toInt_toInt64]; exact Iff.rfl
  by_cases h : y < -1
  · rw [if_pos (e1.mpr h), if_pos (Or.inl h)]
  · rw [if_neg (fun q => h (e1.mp q))]
    by_cases h2 : 60 < y
    · rw [if_pos (e2.mpr h2), if_pos (Or.inr h2)]
    · rw [if_neg (fun q => h2 (e2.mp q)), if_neg (fun q => q.elim h h2)]
theorem z_lN {a b : Nat} (ha : a < 2 ^ 63) (hb : b < 2 ^ 63) : lN a < lN b ↔ a < b := by
  rw [Int64.lt_iff_toInt_lt]
  unfold lN
  rw [lg_ofNat_toInt ha, lg_ofNat_toInt hb]; omega
theorem z_lNdiv {a b : Nat} (ha : a < 2 ^ 63) (h0 : 0 < b) (hb : b < 2 ^ 63) : lN a / lN b = lN (a / b) := by
  apply Int64.toInt_inj.mp
  have e1 : (lN a).toInt = (a : Int) := lg_ofNat_toInt ha
  have e2 : (lN b).toInt = (b : Int) := lg_ofNat_toInt hb
  have e3 : (lN (a / b)).toInt = ((a / b : Nat) : Int) := lg_ofNat_toInt (Nat.lt_of_le_of_lt (Nat.div_le_self _ _) ha)
  rw [lg_ldiv_nonneg (by omega) (by omega), e1, e2, e3]; rfl
section
variable {o : Nat} {A : ZA} {nm : Nat → Nat → Nat} {P : ZP} {M N : SM}
theorem g_desk (hW : z_WB A nm P) (h : z_CB o A nm P M) (k : z_MB A nm P N) (x y : Int32) : ∃ v, f_Sp_desk 0 x y M = some v ∧ f_Mo_desk 366 x y N = some v := by
  have hd8 := hW.1.2.1
  have ho := h.1
  unfold f_Sp_desk f_Mo_desk
  rw [c_isDesk hW h, m_isDesk hW k, h.2.1, jo_13 ho, jo_8 ho]
  show ∃ v, (if (if z_q x (A 0 3) then (1 : Int32) else 0) = 0 then _ else _) = _ ∧ (if (if z_q x (A 0 3) then (1 : Int32) else 0) = 0 then _ else _) = _
  by_cases q : z_q x (A 0 3)
  · rw [z_b1 q, z_b1 q, z_isIn1]
    obtain ⟨d, hd, rfl⟩ := z_q_of (by omega) q
    show ∃ v, _ ∧ (if (if y < -1 ∨ 60 < y then (0 : Int32) else 1) = 0 then _ else _) = _
    by_cases r : y < -1
    · rw [if_pos r, if_pos (Or.inl r)]; exact ⟨_, rfl, rfl⟩
    rw [if_neg r]
    by_cases r2 : 60 < y
    · rw [if_pos r2, if_pos (Or.inr r2)]; exact ⟨_, rfl, rfl⟩
    rw [if_neg r2, if_neg (fun (t : y < -1 ∨ 60 < y) => t.elim r r2), if_neg (show ¬ (1 : Int32) = 0 by decide), c_size hW h hd, m_bars hd8 k.2.1 hd]
    by_cases r3 : y = -1
    · simp only [if_pos r3]; exact ⟨_, rfl, rfl⟩
    simp only [if_neg r3]
    rw [zao_4 ho _ (by omega), h.2.2.1.2.2.2.2.2.2.2.2.1 d hd, jm_35, zl_8, nI_add, zi_390 _ (by omega), k.1.2.2.2.2.2.2.2.2.1 d hd]
    by_cases r4 : y = 0
    · simp only [if_pos r4]; exact ⟨_, rfl, rfl⟩
    simp only [if_neg r4]
    have hy : ∃ j, 1 ≤ j ∧ j ≤ 60 ∧ y = nI j := by
      rw [Int32.lt_iff_toInt_lt] at r r2
      have r : ¬ y.toInt < -1 := r
      have r2 : ¬ 60 < y.toInt := r2
      have r3' : y.toInt ≠ -1 := fun t => r3 (Int32.toInt_inj.mp t)
      have r4' : y.toInt ≠ 0 := fun t => r4 (Int32.toInt_inj.mp t)
      have r5 : ¬ y < 0 := by rw [Int32.lt_iff_toInt_lt]; show ¬ y.toInt < 0; omega
      obtain ⟨j, hj, rfl⟩ := nI_of r5
      rw [nI_toInt hj] at r2 r4'
      exact ⟨j, by omega, by omega, rfl⟩
    obtain ⟨j, hj1, hj2, rfl⟩ := hy
    rw [c_pact ho hd8 hW.2.1 h.2.2.2.1 hd (by omega), m_plainly hd8 hW.2.1 k.2.1 hd hj1 (by omega)]
    exact ⟨_, rfl, rfl⟩
  · rw [z_b0 q, z_b0 q]; exact ⟨_, rfl, rfl⟩
theorem g_led (hW : z_WB A nm P) (h : z_CB o A nm P M) (k : z_MB A nm P N) (x y : Int32) : ∃ v, f_Sp_led 0 x y M = some v ∧ f_Mo_led 366 x y N = some v := by
  have hd8 := hW.1.2.1
  have ho := h.1
  unfold f_Sp_led f_Mo_led
  rw [c_isDesk hW h, m_isDesk hW k, c_isBar, m_isBar]
  show ∃ v, (if (if z_q x (A 0 3) then (1 : Int32) else 0) = 0 then _ else _) = _ ∧ (if (if z_q x (A 0 3) then (1 : Int32) else 0) = 0 then _ else _) = _
  by_cases q : z_q x (A 0 3)
  · rw [z_b1 q, z_b1 q]
    show ∃ v, (if (if z_q y 61 then (1 : Int32) else 0) = 0 then _ else _) = _ ∧ (if (if z_q y 61 then (1 : Int32) else 0) = 0 then _ else _) = _
    by_cases r : z_q y 61
    · rw [z_b1 r, z_b1 r]
      obtain ⟨d, hd, rfl⟩ := z_q_of (by omega) q
      obtain ⟨b, hb, rfl⟩ := z_q_of (by decide) r
      have key : ∀ j c s, 1 ≤ c → c + j = b + 1 → ∃ t, ∀ n, j < n → lp_Sp_led_22 0 (nI d) (nI b) M n (nI s) (nI c) = some (nI t) ∧ lp_Mo_led_22 366 (nI d) (nI b) N n (nI (s * A 4 d)) (nI c) = some (nI (t * A 4 d)) := by
        intro j
        induction j with
        | zero =>
          intro c s h1 h2
          refine ⟨s, fun n hn => ?_⟩
          obtain ⟨n, rfl⟩ : ∃ n', n = n' + 1 := ⟨n - 1, by omega⟩
          rw [lp_Sp_led_22, lp_Mo_led_22, if_pos (nI_lt (by omega) (by omega)), if_pos (nI_lt (by omega) (by omega))]
          exact ⟨rfl, rfl⟩
        | succ j ih =>
          intro c s h1 h2
          obtain ⟨t, ht⟩ := ih (c + 1) (if z_pa P d c = 0 then s + 1 else s) (by omega) (by omega)
          refine ⟨t, fun n hn => ?_⟩
          obtain ⟨n, rfl⟩ : ∃ n', n = n' + 1 := ⟨n - 1, by omega⟩
          have hp := z_pa_b hW.2.1 hd c
          have h3 := ht n (by omega)
          rw [lp_Sp_led_22, lp_Mo_led_22, if_neg (nI_nlt (by omega) (by omega)), if_neg (nI_nlt (by omega) (by omega)), h.2.1, jo_13 ho, c_pact ho hd8 hW.2.1 h.2.2.2.1 hd (by omega), m_plainly hd8 hW.2.1 k.2.1 hd h1 (by omega), jm_35, zl_8, nI_add, zi_390 _ (by omega), k.1.2.2.2.2.2.2.2.2.1 d hd, nI_1, nI_1]
          by_cases e : z_pa P d c = 0
          · rw [if_pos e] at h3
            rw [e]
            show ((lp_Sp_led_22 0 (nI d) (nI b) M n (nI (s + 1)) (nI (c + 1))) = _) ∧ ((lp_Mo_led_22 366 (nI d) (nI b) N n (nI (s * A 4 d) + nI (A 4 d)) (nI (c + 1))) = _)
            rw [nI_add, ← Nat.succ_mul]; exact h3
          · rw [if_neg e] at h3
            have e' : ¬ nI (z_pa P d c) = 0 := nI_ne0 (by omega) (by omega)
            show (((if nI (z_pa P d c) = 0 then _ else _ : Option Int32).bind _) = _) ∧ (((if nI (z_pa P d c) = 0 then _ else _ : Option Int32).bind _) = _)
            rw [if_neg e', if_neg e']; exact h3
      obtain ⟨t, ht⟩ := key b 1 0 (by decide) (by omega)
      have h3 := ht jfuel (by rw [z_jf]; omega)
      rw [Nat.zero_mul] at h3
      have h4 : lp_Sp_led_22 0 (nI d) (nI b) M jfuel 0 1 = some (nI t) := h3.1
      have h5 : lp_Mo_led_22 366 (nI d) (nI b) N jfuel 0 1 = some (nI (t * A 4 d)) := h3.2
      rw [h4, h5]
      show ∃ v, ((f_Sp_at _ (nI d) M).bind fun q10 => some (nI t * q10)) = _ ∧ some (nI (t * A 4 d)) = _
      rw [h.2.1, jo_8 ho, zao_4 ho _ (by omega), h.2.2.1.2.2.2.2.2.2.2.2.1 d hd]
      exact ⟨_, rfl, by rw [pk_mul]⟩
    · rw [z_b0 r, z_b0 r]; exact ⟨_, rfl, rfl⟩
  · rw [z_b0 q, z_b0 q]; exact ⟨_, rfl, rfl⟩
theorem c_ground (hW : z_WB A nm P) (h : z_CB o A nm P M) {i b : Nat} (hi : i < A 0 5) (hb : b < 61) : f_Sp_isAground 0 (nI i) (nI b) M = some (if (r_v A (z_pa P) b).1 ((r_v A (z_pa P) b).2.1 i) < A 8 i then 1 else 0) := by
  have hG := r_v_G (A := A) (al := z_pa P) hW.1 b
  have hc := hG.2 i hi
  have hw := hG.1 _ hc
  have h8 := (hW.1.2.2.2.2.2.2.2.2.2.2.1 i hi).2
  have e1 := c_boatC hW h hi hb
  have e2 := c_water hW h hc hb
  have e3 := c_draft h.1 hW.1 h.2.2.1 hi
  unfold f_Sp_isAground
  rw [jp_0_6, e1, h.2.1, jo_11 h.1, e3]
  generalize (r_v A (z_pa P) b).2.1 i = c at *
  generalize (r_v A (z_pa P) b).1 c = v at *
  show ((f_Ru_water 132 (nI b) (nI c) M).bind fun q2 => if q2 < nI (A 8 i) then some 1 else some 0) = _
  rw [e2]
  show (if nI v < nI (A 8 i) then some 1 else some 0) = _
  by_cases r : v < A 8 i
  · rw [if_pos r, if_pos (nI_lt r (by omega))]
  · rw [if_neg r, if_neg (nI_nlt (by omega) (by omega))]
theorem m_ground (hW : z_WB A nm P) (k : z_MB A nm P N) {i b : Nat} (hi : i < A 0 5) (hb : b < 61) : f_Mo_isAground 366 (nI i) (nI b) N = some (if (r_v A (z_pa P) b).1 ((r_v A (z_pa P) b).2.1 i) < A 8 i then 1 else 0) := by
  have hG := r_v_G (A := A) (al := z_pa P) hW.1 b
  have hc := hG.2 i hi
  have hw := hG.1 _ hc
  have h8 := (hW.1.2.2.2.2.2.2.2.2.2.2.1 i hi).2
  have e1 := m_boatI hW k hi hb
  have e2 := m_deepA hW k hc hb
  have e3 := m_draft hW.1 k.1 hi
  unfold f_Mo_isAground
  rw [jm_60, zl_4, pk_mul, nI_add, e1, jm_59, e3]
  generalize (r_v A (z_pa P) b).2.1 i = c at *
  generalize (r_v A (z_pa P) b).1 c = v at *
  show ((aI N 401 (12 * nI b + nI c)).bind fun v2 => if v2 < nI (A 8 i) then some 1 else some 0) = _
  rw [zl_12, pk_mul, nI_add, e2]
  show (if nI v < nI (A 8 i) then some 1 else some 0) = _
  by_cases r : v < A 8 i
  · rw [if_pos r, if_pos (nI_lt r (by omega))]
  · rw [if_neg r, if_neg (nI_nlt (by omega) (by omega))]
theorem g_ground (hW : z_WB A nm P) (h : z_CB o A nm P M) (k : z_MB A nm P N) {i b : Nat} (hi : i < A 0 5) (hb : b < 61) : ∃ v : Int32, (v = 0 ∨ v = 1) ∧ f_Sp_isAground 0 (nI i) (nI b) M = some v ∧ f_Mo_isAground 366 (nI i) (nI b) N = some v :=
  ⟨_, z_ifb _, c_ground hW h hi hb, m_ground hW k hi hb⟩
theorem g_boat (hW : z_WB A nm P) (h : z_CB o A nm P M) (k : z_MB A nm P N) (x y z : Int32) : ∃ v, f_Sp_boat 0 x y z M = some v ∧ f_Mo_boat 366 x y z N = some v := by
  have h5 := hW.1.2.2.2.1
  have ho := h.1
  unfold f_Sp_boat f_Mo_boat
  rw [h.2.1, jo_11 ho, c_holds h.2.2.1.2.2.2.2.2.1, m_isBoat hW k, c_isBar, m_isBar]
  show ∃ v, (if (if z_q x (A 0 5) then (1 : Int32) else 0) = 0 then _ else _) = _ ∧ (if (if z_q x (A 0 5) then (1 : Int32) else 0) = 0 then _ else _) = _
  by_cases q : z_q x (A 0 5)
  · rw [z_b1 q, z_b1 q]
    show ∃ v, (if (if z_q y 61 then (1 : Int32) else 0) = 0 then _ else _) = _ ∧ (if (if z_q y 61 then (1 : Int32) else 0) = 0 then _ else _) = _
    by_cases r : z_q y 61
    · rw [z_b1 r, z_b1 r]
      obtain ⟨i, hi, rfl⟩ := z_q_of (by omega) q
      obtain ⟨b, hb, rfl⟩ := z_q_of (by decide) r
      by_cases e : z = 0
      · rw [if_pos e, if_pos e, jp_0_6, c_boatC hW h hi hb, jm_60, zl_4, pk_mul, nI_add, m_boatI hW k hi hb]
        exact ⟨_, rfl, rfl⟩
      · rw [if_neg e, if_neg e]
        obtain ⟨v, hv, e1, e2⟩ := g_ground hW h k hi hb
        rw [e1, e2]
        rcases hv with rfl | rfl <;> exact ⟨_, rfl, rfl⟩
    · rw [z_b0 r, z_b0 r]; exact ⟨_, rfl, rfl⟩
  · rw [z_b0 q, z_b0 q]; exact ⟨_, rfl, rfl⟩
theorem g_first (hW : z_WB A nm P) (h : z_CB o A nm P M) (k : z_MB A nm P N) (x y : Int32) : ∃ v, f_Sp_first 0 x y M = some v ∧ f_Mo_first 366 x y N = some v := by
  have h5 := hW.1.2.2.2.1
  have ho := h.1
  unfold f_Sp_first f_Mo_first
  rw [h.2.1, jo_11 ho, c_holds h.2.2.1.2.2.2.2.2.1, m_isBoat hW k, show (2 : Int64) = lN 2 from rfl, z_isM y 2 (by decide)]
  show ∃ v, (if (if z_q x (A 0 5) then (1 : Int32) else 0) = 0 then _ else _) = _ ∧ (if (if z_q x (A 0 5) then (1 : Int32) else 0) = 0 then _ else _) = _
  by_cases q : z_q x (A 0 5)
  · rw [z_b1 q, z_b1 q]
    obtain ⟨i, hi, rfl⟩ := z_q_of (by omega) q
    show ∃ v, _ ∧ (if (if z_q y 3 then (1 : Int32) else 0) = 0 then _ else _) = _
    have e2 : (2 : Int32) < y ↔ ¬ y < nI 3 := by
      rw [Int32.lt_iff_toInt_lt, Int32.lt_iff_toInt_lt]
      show (2 : Int) < _ ↔ ¬ _ < (3 : Int)
      omega
    by_cases r : z_q y 3
    · rw [z_b1 r, if_neg r.1, if_neg (fun t => (e2.mp t) r.2)]
      by_cases r2 : y = 2
      · rw [if_pos r2, if_pos r2, c_draft ho hW.1 h.2.2.1 hi, m_draft hW.1 k.1 hi]
        exact ⟨_, rfl, rfl⟩
      · rw [if_neg r2, if_neg r2]
        have key : ∀ j c, c + j = 61 → ∃ t : Unit ⊕ Int32, ∀ n, j < n → lp_Sp_first_44 0 (nI i) y M n (nI c) = some t ∧ lp_Mo_first_35 366 (nI i) y N n (nI c) = some t := by
          intro j
          induction j with
          | zero =>
            intro c hc
            refine ⟨.inl (), fun n hn => ?_⟩
            obtain ⟨n, rfl⟩ : ∃ n', n = n' + 1 := ⟨n - 1, by omega⟩
            have e : c = 61 := by omega
            subst e
            rw [lp_Sp_first_44, lp_Mo_first_35]; exact ⟨rfl, rfl⟩
          | succ j ih =>
            intro c hc
            obtain ⟨t, ht⟩ := ih (c + 1) (by omega)
            obtain ⟨v, hv, e1, e2⟩ := g_ground hW h k hi (b := c) (by omega)
            have e3 : ∀ n, lp_Sp_first_44 0 (nI i) y M (n + 1) (nI c) = (if y = 0 then (if v = 0 then lp_Sp_first_44 0 (nI i) y M n (nI (c + 1)) else some (.inr (nI c))) else (if nI ((r_v A (z_pa P) c).2.1 i) = nI (A 0 0) - 1 then some (.inr (nI c)) else lp_Sp_first_44 0 (nI i) y M n (nI (c + 1)))) := fun n => by
              rw [lp_Sp_first_44, zl_60, if_neg (nI_nlt (by omega) (by omega)), e1, jp_0_6, c_boatC hW h hi (by omega), h.2.1, h.2.2.1.1, nI_1]; rfl
            have e4 : ∀ n, lp_Mo_first_35 366 (nI i) y N (n + 1) (nI c) = (if y = 0 then (if v = 0 then lp_Mo_first_35 366 (nI i) y N n (nI (c + 1)) else some (.inr (nI c))) else (if nI ((r_v A (z_pa P) c).2.1 i) = nI (A 0 0) - 1 then some (.inr (nI c)) else lp_Mo_first_35 366 (nI i) y N n (nI (c + 1)))) := fun n => by
              rw [lp_Mo_first_35, zl_60, if_neg (nI_nlt (by omega) (by omega)), e2, jm_60, zl_4, pk_mul, nI_add, m_boatI hW k hi (by omega), k.1.1, nI_1]; rfl
            by_cases a : y = 0
            · by_cases b : v = 0
              · refine ⟨t, fun n hn => ?_⟩
                obtain ⟨n, rfl⟩ : ∃ n', n = n' + 1 := ⟨n - 1, by omega⟩
                rw [e3, e4, if_pos a, if_pos a, if_pos b, if_pos b]; exact ht n (by omega)
              · refine ⟨.inr (nI c), fun n hn => ?_⟩
                obtain ⟨n, rfl⟩ : ∃ n', n = n' + 1 := ⟨n - 1, by omega⟩
                rw [e3, e4, if_pos a, if_pos a, if_neg b, if_neg b]; exact ⟨rfl, rfl⟩
            · by_cases b : nI ((r_v A (z_pa P) c).2.1 i) = nI (A 0 0) - 1
              · refine ⟨.inr (nI c), fun n hn => ?_⟩
                obtain ⟨n, rfl⟩ : ∃ n', n = n' + 1 := ⟨n - 1, by omega⟩
                rw [e3, e4, if_neg a, if_neg a, if_pos b, if_pos b]; exact ⟨rfl, rfl⟩
              · refine ⟨t, fun n hn => ?_⟩
                obtain ⟨n, rfl⟩ : ∃ n', n = n' + 1 := ⟨n - 1, by omega⟩
                rw [e3, e4, if_neg a, if_neg a, if_neg b, if_neg b]; exact ht n (by omega)
        obtain ⟨t, ht⟩ := key 61 0 rfl
        have h3 := ht jfuel (by decide)
        have h3a : lp_Sp_first_44 0 (nI i) y M jfuel 0 = some t := h3.1
        have h3b : lp_Mo_first_35 366 (nI i) y N jfuel 0 = some t := h3.2
        rw [h3a, h3b]
        cases t <;> exact ⟨_, rfl, rfl⟩
    · rw [z_b0 r]
      by_cases r1 : y < 0
      · rw [if_pos r1]; exact ⟨_, rfl, rfl⟩
      · rw [if_neg r1, if_pos (e2.mpr (fun t => r ⟨r1, t⟩))]; exact ⟨_, rfl, rfl⟩
  · rw [z_b0 q, z_b0 q]; exact ⟨_, rfl, rfl⟩
theorem g_turnk (hW : z_WB A nm P) (h : z_CB o A nm P M) (k : z_MB A nm P N) {i b : Nat} (hi : i < A 0 4) (hb : b < 61) : ∀ j c s, c + j = b + 1 → ∃ t, ∀ n, j < n → lp_Sp_turning_54 0 (nI b) (nI (A 5 i)) (nI (A 6 i)) M n s (nI c) = some t ∧ lp_Mo_turning_32 366 (nI i) (nI b) N n s (nI c) = some t := by
  have h4 := hW.1.2.2.1
  have h0 := hW.1.1
  have e2 := k.1.2.2.2.2.2.2.2.2.2.1 i hi
  have e3 := hW.1.2.2.2.2.2.2.2.2.2.1 i hi
  intro j
  induction j with
  | zero =>
    intro c s h1
    refine ⟨s, fun n hn => ?_⟩
    obtain ⟨n, rfl⟩ : ∃ n', n = n' + 1 := ⟨n - 1, by omega⟩
    rw [lp_Sp_turning_54, lp_Mo_turning_32, if_pos (nI_lt (by omega) (by omega)), if_pos (nI_lt (by omega) (by omega))]
    exact ⟨rfl, rfl⟩
  | succ j ih =>
    intro c s h1
    obtain ⟨t, ht⟩ := ih (c + 1) (if nI ((r_v A (z_pa P) c).1 (A 5 i)) < nI (A 6 i) then s else s + 1) (by omega)
    refine ⟨t, fun n hn => ?_⟩
    obtain ⟨n, rfl⟩ : ∃ n', n = n' + 1 := ⟨n - 1, by omega⟩
    have h3 := ht n (by omega)
    have f1 := c_water hW h e3.1 (b := c) (by omega)
    have f2 := m_deepA hW k e3.1 (b := c) (by omega)
    generalize nI ((r_v A (z_pa P) c).1 (A 5 i)) = v at h3 f1 f2
    rw [lp_Sp_turning_54, lp_Mo_turning_32, if_neg (nI_nlt (by omega) (by omega)), if_neg (nI_nlt (by omega) (by omega)), jp_0_6, f1, jm_37, zl_8, zl_2, pk_mul, nI_add, nI_1, nI_1, zi_392 _ (by omega), zi_392 _ (by omega), e2.1, e2.2, jm_59, zl_12, pk_mul]
    simp only [Option.bind_some, nI_add, f2]
    by_cases e : v < nI (A 6 i)
    · rw [if_pos e] at h3
      simp only [if_pos e, Option.bind_some]; exact h3
    · rw [if_neg e] at h3
      simp only [if_neg e, Option.bind_some]; exact h3
theorem g_turning (hW : z_WB A nm P) (h : z_CB o A nm P M) (k : z_MB A nm P N) (x y : Int32) : ∃ v, f_Sp_turning 0 x y M = some v ∧ f_Mo_turning 366 x y N = some v := by
  have h4 := hW.1.2.2.1
  have ho := h.1
  unfold f_Sp_turning f_Mo_turning
  rw [h.2.1, jo_10 ho, c_holds h.2.2.1.2.2.2.2.1, jm_28, show (5 : Int32) = nI 5 from rfl, zi_385 _ (by decide), k.1.2.2.2.2.1, c_isBar, m_isBar]
  simp only [Option.bind_some]
  rw [z_isN x (by omega)]
  simp only [Option.bind_some]
  by_cases q : z_q x (A 0 4)
  · rw [z_b1 q, z_b1 q]
    by_cases r : z_q y 61
    · rw [z_b1 r, z_b1 r]
      obtain ⟨i, hi, rfl⟩ := z_q_of (by omega) q
      obtain ⟨b, hb, rfl⟩ := z_q_of (by decide) r
      have e1 := h.2.2.1.2.2.2.2.2.2.2.2.2.1 i hi
      have e5 : f_St_cellOfOne (o + 30) (nI i) M = some (nI (A 5 i)) := by
        unfold f_St_cellOfOne
        rw [jo_30_0 ho, zao_31 ho _ (by omega), e1.1]; rfl
      have e6 : f_St_amountOf (o + 30) (nI i) M = some (nI (A 6 i)) := by
        unfold f_St_amountOf
        rw [jo_30_1 ho, zao_32 ho _ (by omega), e1.2]; rfl
      obtain ⟨t, ht⟩ := g_turnk hW h k hi hb (b + 1) 0 0 (by omega)
      have h3 := ht jfuel (by rw [z_jf]; omega)
      rw [nI_0] at h3
      rw [e5, e6]
      simp only [Option.bind_some]
      rw [h3.1, h3.2]
      exact ⟨_, rfl, rfl⟩
    · rw [z_b0 r, z_b0 r]; exact ⟨_, rfl, rfl⟩
  · rw [z_b0 q, z_b0 q]; exact ⟨_, rfl, rfl⟩
/-! a NAME as a number -/
theorem z_EN_lt {f : Nat → Nat} : ∀ {m : Nat}, (∀ k, k < m → f k < 27) → z_it (fun k v => 27 * v + f k) m 0 < 27 ^ m
  | 0, _ => Nat.lt_succ_self 0
  | m + 1, h => by
    have h1 := z_EN_lt (m := m) (fun k hk => h k (by omega))
    have h2 := h m (by omega)
    show 27 * _ + f m < _
    rw [Nat.pow_succ]; omega
theorem z_EN_pos {f : Nat → Nat} (h0 : 1 ≤ f 0) : ∀ {m : Nat}, 1 ≤ m → 1 ≤ z_it (fun k v => 27 * v + f k) m 0
  | 0, h => by omega
  | 1, _ => by show 1 ≤ 27 * 0 + f 0; omega
  | m + 2, _ => by
    have h1 := z_EN_pos h0 (m := m + 1) (by omega)
    show 1 ≤ 27 * z_it (fun k v => 27 * v + f k) (m + 1) 0 + f (m + 1)
    omega
theorem m_letters {f : Nat → Nat} (h0 : 1 ≤ f 0) : ∀ (m c n : Nat), m ≤ 6 → c + m < 100 → m < n → (∀ k, k < m → f k < 27) → lp_Mo_letter_69 n (nI c) (lN (z_it (fun k v => 27 * v + f k) m 0)) = some (nI (c + m)) := by
  intro m
  induction m with
  | zero =>
    intro c n h1 h2 h3 h4
    obtain ⟨n, rfl⟩ : ∃ n', n = n' + 1 := ⟨n - 1, by omega⟩
    rw [lp_Mo_letter_69]
    exact if_neg (by show ¬ 0 < lN 0; decide)
  | succ m ih =>
    intro c n h1 h2 h3 h4
    obtain ⟨n, rfl⟩ : ∃ n', n = n' + 1 := ⟨n - 1, by omega⟩
    have hlt := z_EN_lt h4
    have hpw : 27 ^ (m + 1) ≤ 27 ^ 6 := Nat.pow_le_pow_right (by decide) h1
    have hp := z_EN_pos h0 (m := m + 1) (by omega)
    have hm := h4 m (by omega)
    rw [lp_Mo_letter_69]
    rw [if_pos (by show lN 0 < _; exact (z_lN (by decide) (Nat.lt_of_lt_of_le hlt (Nat.le_trans hpw (by decide)))).mpr (by omega)), nI_1, show (27 : Int64) = lN 27 from rfl, z_lNdiv (Nat.lt_of_lt_of_le hlt (Nat.le_trans hpw (by decide))) (by decide) (by decide)]
    have e : z_it (fun k v => 27 * v + f k) (m + 1) 0 / 27 = z_it (fun k v => 27 * v + f k) m 0 := by
      show (27 * z_it (fun k v => 27 * v + f k) m 0 + f m) / 27 = _
      omega
    rw [e, ih (c + 1) n (by omega) (by omega) (by omega) (fun k hk => h4 k (by omega)), show c + 1 + m = c + (m + 1) by omega]
theorem m_digit {f : Nat → Nat} : ∀ (j q n k : Nat), q = k + j → q ≤ 5 → j < n → (∀ k, k < 6 → f k < 27) → lp_Mo_letter_104 (nI k) n (lN (z_it (fun k v => 27 * v + f k) (q + 1) 0)) (nI q) = some (lN (z_it (fun k v => 27 * v + f k) (k + 1) 0)) := by
  intro j
  induction j with
  | zero =>
    intro q n k h1 h2 h3 h4
    obtain ⟨n, rfl⟩ : ∃ n', n = n' + 1 := ⟨n - 1, by omega⟩
    have e : q = k := by omega
    subst e
    rw [lp_Mo_letter_104]
    exact if_neg (nI_nlt (Nat.le_refl _) (by omega))
  | succ j ih =>
    intro q n k h1 h2 h3 h4
    obtain ⟨n, rfl⟩ : ∃ n', n = n' + 1 := ⟨n - 1, by omega⟩
    obtain ⟨p, rfl⟩ : ∃ p, q = p + 1 := ⟨q - 1, by omega⟩
    have hlt := z_EN_lt (m := p + 1 + 1) (fun k hk => h4 k (by omega))
    have hpw : 27 ^ (p + 1 + 1) ≤ 27 ^ 6 := Nat.pow_le_pow_right (by decide) (by omega)
    have hm := h4 (p + 1) (by omega)
    rw [lp_Mo_letter_104, if_pos (nI_lt (by omega) (by omega)), pk_m1, show (27 : Int64) = lN 27 from rfl, z_lNdiv (Nat.lt_of_lt_of_le hlt (Nat.le_trans hpw (by decide))) (by decide) (by decide)]
    have e : z_it (fun k v => 27 * v + f k) (p + 1 + 1) 0 / 27 = z_it (fun k v => 27 * v + f k) (p + 1) 0 := by
      show (27 * z_it (fun k v => 27 * v + f k) (p + 1) 0 + f (p + 1)) / 27 = _
      omega
    rw [e]
    exact ih p n k (by omega) (by omega) (by omega) h4
theorem g_letter (hW : z_WB A nm P) (h : z_CB o A nm P M) (k : z_MB A nm P N) (x y z : Int32) : ∃ v, f_Sp_letter 0 x y z M = some v ∧ f_Mo_letter 366 x y z N = some v := by
  have hw := hW.1
  have ho := h.1
  unfold f_Sp_letter f_Mo_letter
  rw [show (2 : Int64) = lN 2 from rfl, z_isM x 2 (by decide)]
  show ∃ v, _ ∧ (if (if z_q x 3 then (1 : Int32) else 0) = 0 then _ else _) = _
  by_cases q : z_q x 3
  · rw [z_b1 q, if_neg q.1, if_pos (show x < 3 from q.2)]
    obtain ⟨i, hi, rfl⟩ := z_q_of (by decide) q
    have hn : A 0 (3 + i) ≤ 8 := by
      match i, hi with
      | 0, _ => exact hw.2.1
      | 1, _ => exact Nat.le_trans hw.2.2.1 (by decide)
      | 2, _ => exact Nat.le_trans hw.2.2.2.1 (by decide)
      | i + 3, h => omega
    have e1 : f_Op_named o (nI i) M = some (nI (A 0 (3 + i))) := by
      unfold f_Op_named
      match i, hi with
      | 0, _ => rw [if_pos (show nI 0 = 0 from rfl), h.2.2.1.2.2.2.1]
      | 1, _ => rw [if_neg (show ¬ nI 1 = 0 by decide), if_pos (show nI 1 = 1 from rfl), jo_10 ho, h.2.2.1.2.2.2.2.1]
      | 2, _ => rw [if_neg (show ¬ nI 2 = 0 by decide), if_neg (show ¬ nI 2 = 1 by decide), if_pos (show nI 2 = 2 from rfl), jo_11 ho, h.2.2.1.2.2.2.2.2.1]
      | i + 3, h => omega
    have e2 : aI N 385 (nI (4 + i)) = some (nI (A 0 (3 + i))) := by
      rw [zi_385 _ (by omega)]
      match i, hi with
      | 0, _ => exact congrArg some k.1.2.2.2.1
      | 1, _ => exact congrArg some k.1.2.2.2.2.1
      | 2, _ => exact congrArg some k.1.2.2.2.2.2.1
      | i + 3, h => omega
    rw [h.2.1, e1, jm_28, zl_4, nI_add, e2]
    show ∃ v, (if y < 0 then _ else if y < nI (A 0 (3 + i)) then _ else _) = _ ∧ ((f_Mo_isIn y.toInt64 0 (nI (A 0 (3 + i)) - 1).toInt64).bind _) = _
    rw [z_isN y (by omega)]
    show ∃ v, _ ∧ (if (if z_q y (A 0 (3 + i)) then (1 : Int32) else 0) = 0 then _ else _) = _
    by_cases r : z_q y (A 0 (3 + i))
    · rw [z_b1 r, if_neg r.1, if_pos r.2]
      obtain ⟨w, hw2, rfl⟩ := z_q_of (by omega) r
      rw [show (5 : Int64) = lN 5 from rfl, z_isM z 5 (by decide)]
      show ∃ v, _ ∧ (if (if z_q z 6 then (1 : Int32) else 0) = 0 then _ else _) = _
      by_cases t : z_q z 6
      · rw [z_b1 t, if_neg t.1, if_pos (show z < 6 from t.2)]
        obtain ⟨j, hj, rfl⟩ := z_q_of (by decide) t
        have hn2 := hW.2.2.2.2 i w hi hw2
        have hf : ∀ k, k < 6 → nm (8 * i + w) k < 27 := fun k hk => (hn2.2.2 k hk).1
        have h01 : 1 ≤ nm (8 * i + w) 0 := by
          have := (hn2.2.2 0 (by decide)).2
          have h1 := hn2.1
          omega
        unfold f_Sp_nameRow
        rw [jo_9 ho, jm_29, zl_8, pk_mul, nI_add, zl_24, pk_mul, nI_add, nI_add, zi_386 _ (by omega), k.2.2.2.2 i w hi hw2, show i * 8 + w = 8 * i + w by omega]
        show ∃ v, ((f_Sp_cellOf (o + 5) (nI (8 * i + w)) (nI j) M).bind _) = _ ∧ ((lp_Mo_letter_69 jfuel (nI 0) (lN (z_EN nm (8 * i + w)))).bind _) = _
        unfold z_EN
        rw [zco_5 ho _ (by omega) hj, h.2.2.2.2.2 i w hi hw2 j hj, m_letters h01 _ 0 jfuel hn2.2.1 (by omega) (by rw [z_jf]; omega) (fun k hk => hf k (by omega))]
        show ∃ v, (if nI (if nm (8 * i + w) j = 0 then 0 else nm (8 * i + w) j + 96) = 0 then some 0 else some (nI (if nm (8 * i + w) j = 0 then 0 else nm (8 * i + w) j + 96) - 97 + 1)) = some v ∧ (if nI j < nI (0 + nm (8 * i + w) 6) then _ else some 0) = some v
        have hl := (hn2.2.2 j hj).2
        have hf1 := hf j hj
        by_cases u : nm (8 * i + w) j = 0
        · rw [if_pos u, if_pos (show nI 0 = 0 from rfl), if_neg (nI_nlt (by have := hl.mp u; omega) (by omega))]
          exact ⟨_, rfl, rfl⟩
        · have u2 : j < nm (8 * i + w) 6 := Nat.not_le.mp (fun t => u (hl.mpr t))
          rw [if_neg u, if_neg (nI_ne0 (by omega) (by omega)), if_pos (nI_lt (by omega) (by omega)), show (97 : Int32) = nI 97 from rfl, z_sub (by omega), nI_1, z_ls (by omega)]
          have e3 := m_digit (f := nm (8 * i + w)) (nm (8 * i + w) 6 - 1 - j) (nm (8 * i + w) 6 - 1) jfuel j (by omega) (by omega) (by rw [z_jf]; omega) hf
          rw [show nm (8 * i + w) 6 - 1 + 1 = nm (8 * i + w) 6 by omega] at e3
          rw [show 0 + nm (8 * i + w) 6 - 1 = nm (8 * i + w) 6 - 1 by omega, e3]
          refine ⟨_, rfl, ?_⟩
          have hlt := z_EN_lt (f := nm (8 * i + w)) (m := j + 1) (fun k hk => hf k (by omega))
          have hpw : 27 ^ (j + 1) ≤ 27 ^ 6 := Nat.pow_le_pow_right (by decide) (by omega)
          show some (lN _ - lN _ / 27 * 27).toInt32 = _
          have hx : z_it (fun k v => 27 * v + nm (8 * i + w) k) (j + 1) 0 = 27 * z_it (fun k v => 27 * v + nm (8 * i + w) k) j 0 + nm (8 * i + w) j := rfl
          rw [show (27 : Int64) = lN 27 from rfl, z_lNdiv (Nat.lt_of_lt_of_le hlt (Nat.le_trans hpw (by decide))) (by decide) (by decide), lN_mul, lN_sub (Nat.div_mul_le_self _ _), lN_i]
          congr 2
          omega
      · rw [z_b0 t]
        by_cases r1 : z < 0
        · rw [if_pos r1]; exact ⟨_, rfl, rfl⟩
        · rw [if_neg r1, if_neg (fun (u : z < 6) => t ⟨r1, u⟩)]; exact ⟨_, rfl, rfl⟩
    · rw [z_b0 r]
      by_cases r1 : y < 0
      · rw [if_pos r1]; exact ⟨_, rfl, rfl⟩
      · rw [if_neg r1, if_neg (fun u => r ⟨r1, u⟩)]; exact ⟨_, rfl, rfl⟩
  · rw [z_b0 q]
    by_cases r1 : x < 0
    · rw [if_pos r1]; exact ⟨_, rfl, rfl⟩
    · rw [if_neg r1, if_neg (fun (u : x < 3) => q ⟨r1, u⟩)]; exact ⟨_, rfl, rfl⟩
end
