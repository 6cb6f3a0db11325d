/-! ===== pure: an encore, trout, the seed, the wet ===== -/
/-- the first BARS again behind e -/
def z_ag (P : ZP) (e d b : Nat) : Nat := if e < b then z_pa P d (b - e) else z_pa P d b
section
variable {o : Nat} {A : ZA} {nm : Nat → Nat → Nat} {P : ZP} {M N : SM} {b n : Nat}
theorem z_ag_b (hP : z_WP n P) {d : Nat} (hd : d < n) (e b : Nat) : z_ag P e d b ≤ 3 := by
  unfold z_ag
  split
  · exact z_pa_b hP hd _
  · exact z_pa_b hP hd _
theorem r_v_mono {al : Nat → Nat → Nat} (k : Nat) : ∀ j b, (r_v A al b).2.2 k ≤ (r_v A al (b + j)).2.2 k
  | 0, b => Nat.le_refl _
  | j + 1, b => by
    have := r_v_mono (al := al) k j b
    show _ ≤ (r_v A al (b + j)).2.2 k + r_on A al (b + j + 1) (r_v A al (b + j)).1 k
    omega
theorem c_encore (hW : z_WB A nm P) (h : z_CB o A nm P M) (h0 : 0 < A 0 0) (hbn : b + n ≤ 60) :
    z_ok ((f_Po_begin 319 132 (nI b) M).bind fun q7 => (lp_Sp_encore_76 0 (nI b) (nI n) jfuel (nI b + 1) (sI q7 319 10 (nI b))).bind fun q10 => some ((q10.1 319 5) - ((sI q7 319 10 (nI b)).1 319 5), q10)) (fun r => r.1 = nI ((r_v A (z_ag P b) (b + n)).2.2 3 - (r_v A (z_ag P b) b).2.2 3) ∧ z_Fr (fun i => i < 319 ∨ 321 < i) M r.2) := by
  have hd8 := hW.1.2.1
  refine z_bind (c_begin (b := b) hW h h0 (by omega)) (fun M1 h1 => ?_)
  obtain ⟨⟨pf, P1, P1'⟩, F1, g7, g8, g9, g10⟩ := h1
  generalize hM2 : sI M1 319 10 (nI b) = M2
  have F2 : z_Fr (fun i => i < 319 ∨ 321 < i) M M2 := by rw [← hM2]; exact F1.sI (by omega)
  have hC2 : z_CB o A nm P M2 := h.fr hW F2
  have e0 : r_v A (z_ag P b) b = r_v A (z_pa P) b := r_v_cg (fun j hj d' hd' => by unfold z_ag; rw [if_neg (by omega)])
  have hP2 : z_P3 A (r_v A (z_ag P b) b).1 (r_v A (z_ag P b) b).2.1 pf M2 := by
    rw [e0, ← hM2]
    exact ⟨fun c hc => P1.1 c hc, fun c hc => P1.2.1 c hc, fun k hk => by rw [z_sIk _ _ _ _ (by omega)]; exact P1.2.2 k hk⟩
  have t7 : M2.1 319 7 = nI 0 := by rw [← hM2, z_sIk _ _ _ _ (by decide)]; exact g7
  have t8 : M2.1 319 8 = -1 := by rw [← hM2, z_sIk _ _ _ _ (by decide)]; exact g8
  have t9 : M2.1 319 9 = nI 0 := by rw [← hM2, z_sIk _ _ _ _ (by decide)]; exact g9
  have t10 : M2.1 319 10 = nI b := by rw [← hM2, z_sIs]
  have t5 : M2.1 319 5 = nI ((r_v A (z_ag P b) b).2.2 3) := by
    have := hP2.2.2 3 (by decide)
    rw [P1' 3 (by decide), ← e0] at this
    exact this
  have hpl := c_plays (lp := lp_Sp_encore_76 0 (nI b) (nI n)) (Y := nI b + nI n) (y := b + n) (b0 := b) (al := z_ag P b) (M := M2) hW.1 (hW.2.2.1 h0) h.1 hC2.2.1 hC2.2.2.1 (fun n x M' => by rw [lp_Sp_encore_76]) (nI_add _ _) (by omega) (by omega) hP2 (fun k hk => by rw [e0]; exact P1' k hk) (fun b' d hd => z_ag_b hW.2.1 hd _ _) (fun b' q1 q2 M' hK d' hd' => by
    have hT : z_TC o (A 0 3) P M' := hC2.2.2.2.1.fr hd8 (fun i a1 a2 => hK.1.1 i (by have := h.1; omega))
    have := c_act (s := 0) (h := 99) (l := 0) (e := b) (b := b') h.1 hd8 hW.2.1 hT (by decide) ((hK.2 7 (by decide)).trans t7) (Or.inr ⟨(hK.2 8 (by decide)).trans t8, by decide⟩) (by omega) (by omega) ((hK.2 9 (by decide)).trans t9) ((hK.2 10 (by decide)).trans t10) hd' (by omega) (by omega)
    rw [this]
    unfold z_su z_ag
    rw [if_neg (by rw [Nat.zero_testBit]; decide), if_neg (by omega), if_pos q1])
  rw [nI_1]
  refine z_bind hpl (fun M3 h3 => z_some ⟨?_, F2.tr h3.2.1⟩)
  obtain ⟨⟨pf3, P3, P3'⟩, K3⟩ := h3
  have s5 : M3.1 319 5 = nI ((r_v A (z_ag P b) (b + n)).2.2 3) := by
    have := P3.2.2 3 (by decide)
    rw [P3' 3 (by decide)] at this
    exact this
  show M3.1 319 5 - M2.1 319 5 = _
  rw [s5, t5, z_sub (r_v_mono 3 n b)]
theorem m_encore (hW : z_WB A nm P) (h : z_MB A nm P N) (h0 : 0 < A 0 0) (hbn : b + n ≤ 60) :
    z_ok ((f_Mo_begins 366 (sI (sI N 366 50 (nI b)) 366 51 (nI n))).bind fun q6 => (lp_Mo_encore_54 366 (nI b) (nI n) jfuel 0 1 q6).bind fun q11 => some (q11.1, sI q11.2 366 50 (-1))) (fun r => r.1 = nI ((r_v A (z_ag P b) (b + n)).2.2 3 - (r_v A (z_ag P b) b).2.2 3) ∧ z_VK N r.2 ∧ z_NS r.2) := by
  have hd8 := hW.1.2.1
  have hR := hW.2.2.1 h0
  generalize hN1 : sI (sI N 366 50 (nI b)) 366 51 (nI n) = N1
  have V1 : z_VK N N1 := by rw [← hN1]; exact (z_VK.rf.s (by decide) (by decide)).s (by decide) (by decide)
  have t47 : N1.1 366 47 = nI 0 := by rw [← hN1, z_sIk _ _ _ _ (by decide), z_sIk _ _ _ _ (by decide)]; exact h.2.2.2.1.1
  have t48 : N1.1 366 48 = -1 := by rw [← hN1, z_sIk _ _ _ _ (by decide), z_sIk _ _ _ _ (by decide)]; exact h.2.2.2.1.2.1
  have t50 : N1.1 366 50 = nI b := by rw [← hN1, z_sIk _ _ _ _ (by decide), z_sIs]
  have t51 : N1.1 366 51 = nI n := by rw [← hN1, z_sIs]
  refine z_bind (m_begins hW.1 (h.1.vk V1)) (fun N2 h2 => ?_)
  obtain ⟨⟨pf, P2⟩, F2⟩ := h2
  have Q2 : z_QK N1 N2 := ⟨F2.wk (fun i q => by omega), fun k _ => by rw [F2.1 366 (by decide)]⟩
  refine z_bind (P := fun r : Int32 × SM => r.1 = nI ((r_v A (z_ag P b) (b + n)).2.2 3 - (r_v A (z_ag P b) b).2.2 3) ∧ z_QK N1 r.2) ?_ (fun r hr => z_some ⟨hr.1, (V1.tr hr.2.vk).s (by decide) (by decide), (z_sIk _ _ _ _ (by decide)).trans ((hr.2.2 47 (by decide)).trans t47), (z_sIk _ _ _ _ (by decide)).trans ((hr.2.2 48 (by decide)).trans t48), z_sIs _ _ _ _⟩)
  show z_ok ((fun m c (s : Int32 × SM) => lp_Mo_encore_54 366 (nI b) (nI n) m s.1 c s.2) jfuel (nI 1) (nI 0, N2)) _
  refine z_loop (σ := Int32 × SM) (τ := Int32 × SM) (fun m c (s : Int32 × SM) => lp_Mo_encore_54 366 (nI b) (nI n) m s.1 c s.2) (fun c r => 1 ≤ c ∧ r.1 = nI ((r_v A (z_ag P b) (c - 1)).2.2 3 - (r_v A (z_ag P b) b).2.2 3) ∧ (∃ pf, z_Q3 A (r_v A (z_ag P b) (c - 1)).1 (r_v A (z_ag P b) (c - 1)).2.1 pf r.2) ∧ z_QK N1 r.2) _ (b + n + 1) ?_ ?_ jfuel 1 (nI 0, N2) (by omega) (by rw [z_jf]; omega) ⟨by decide, ?_, ⟨pf, P2⟩, Q2⟩
  · intro m c r hc hI k
    obtain ⟨x, N'⟩ := r
    obtain ⟨h1, hx, ⟨pf, p1⟩, p5⟩ := hI
    have hx : x = nI ((r_v A (z_ag P b) (c - 1)).2.2 3 - (r_v A (z_ag P b) b).2.2 3) := hx
    have p5 : z_QK N1 N' := p5
    have O' := (h.1.vk V1).qk p5
    have T' := (h.2.1.vk V1).lk p5.lk
    show z_ok (lp_Mo_encore_54 366 (nI b) (nI n) (m + 1) x (nI c) N') _
    rw [lp_Mo_encore_54, nI_add]
    refine z_neg (nI_nlt (by omega) (by omega)) ?_
    refine z_bind (m_goes (S := r_v A (z_ag P b) (c - 1)) (al := z_ag P b) hW.1 hR O' (r_v_G hW.1 _) p1 (fun d hd => z_ag_b hW.2.1 hd _ _) (fun M'' hK d hd => ?_)) (fun N4 h4 => ?_)
    · have e : ∀ k, k < 54 → M''.1 366 k = N1.1 366 k := fun k hk => by rw [hK.2 k (Or.inl hk)]; exact p5.2 k (Or.inl hk)
      exact m_does2 hd8 hW.2.1 (T'.lk hK.lk) ((e 47 (by decide)).trans t47) ((e 48 (by decide)).trans t48) ((e 50 (by decide)).trans t50) ((e 51 (by decide)).trans t51) (by omega) (by omega) hd h1 (by omega)
    · obtain ⟨c', rfl⟩ : ∃ c', c = c' + 1 := ⟨c - 1, by omega⟩
      have hr : (r_v A (z_ag P b) (c' + 1)).2.2 3 = (r_v A (z_ag P b) c').2.2 3 + r_on A (z_ag P b) (c' + 1) (r_v A (z_ag P b) c').1 3 := rfl
      have h58 : N4.1 366 58 = nI (r_on A (z_ag P b) (c' + 1) (r_v A (z_ag P b) c').1 3) := h4.1.2.2 4 (by decide)
      refine z_eq (r := nI ((r_v A (z_ag P b) (c' + 1)).2.2 3 - (r_v A (z_ag P b) b).2.2 3)) ?_ ?_
      · rw [hx, show c' + 1 - 1 = c' from rfl, h58]
        by_cases e : b < c' + 1
        · rw [if_pos (nI_lt e (by omega)), nI_add, hr]
          have := r_v_mono (A := A) (al := z_ag P b) 3 (c' - b) b
          rw [show b + (c' - b) = c' by omega] at this
          congr 2; omega
        · rw [if_neg (nI_nlt (by omega) (by omega))]
          have h5 := r_v_mono (A := A) (al := z_ag P b) 3 (b - (c' + 1)) (c' + 1)
          rw [show c' + 1 + (b - (c' + 1)) = b by omega] at h5
          congr 2
          omega
      · rw [nI_1]
        exact k (_, N4) ⟨by omega, rfl, ⟨_, h4.1⟩, p5.tr h4.2⟩
  · intro m r hI
    obtain ⟨x, N'⟩ := r
    show z_ok (lp_Mo_encore_54 366 (nI b) (nI n) (m + 1) x (nI (b + n + 1)) N') _
    rw [lp_Mo_encore_54, nI_add]
    exact z_pos (nI_lt (by omega) (by omega)) (z_some ⟨hI.2.1, hI.2.2.2⟩)
  · show nI 0 = nI ((r_v A (z_ag P b) 0).2.2 3 - _)
    congr 1
    have : (r_v A (z_ag P b) 0).2.2 3 = 0 := rfl
    omega
theorem g_encore (hW : z_WB A nm P) (h : z_CB o A nm P M) (k : z_MB A nm P N) (x y : Int32) :
    ∃ v M' N', f_Sp_encore 0 x y M = some (v, M') ∧ f_Mo_encore 366 x y N = some (v, N') ∧ z_Fr (fun i => i < 319 ∨ 321 < i) M M' ∧ z_VK N N' ∧ z_NS N' := by
  have hS := k.2.2.2.1
  have hc0 := hW.1.1
  by_cases good : 0 < A 0 0 ∧ 0 ≤ x.toInt ∧ 1 ≤ y.toInt ∧ y.toInt ≤ 30 ∧ x.toInt + y.toInt ≤ 60
  · obtain ⟨h0, g1, g2, g3, g4⟩ := good
    obtain ⟨b, hb, rfl, hbx⟩ := z_nIof (x := x) g1
    obtain ⟨n, hn, rfl, hny⟩ := z_nIof (x := y) (by omega)
    obtain ⟨⟨v, M'⟩, ec, pc, F⟩ := c_encore (b := b) (n := n) hW h h0 (by omega)
    obtain ⟨⟨v', N'⟩, em, pm, V, S⟩ := m_encore (b := b) (n := n) hW k h0 (by omega)
    have pc : v = _ := pc
    have pm : v' = _ := pm
    refine ⟨v, M', N', ?_, ?_, F, V, S⟩
    · unfold f_Sp_encore
      rw [h.2.1, h.2.2.1.1, if_neg (nI_ne0 h0 (by omega)), if_neg (nI_pos hb), show (60 : Int32) = nI 60 from rfl, if_neg (nI_nlt (by omega) (by omega)), show (1 : Int32) = nI 1 from rfl, if_neg (nI_nlt (by omega) (by omega)), show (30 : Int32) = nI 30 from rfl, if_neg (nI_nlt (by omega) (by omega)), nI_add, if_neg (nI_nlt (by omega) (by omega)), jp_0_7, jp_0_6]
      exact ec
    · unfold f_Mo_encore
      have e60 : (60 : Int32) - nI n = nI (60 - n) := z_sub (a := 60) (b := n) (by omega)
      rw [z_isG, if_pos (show (1 : Int64).toInt ≤ (nI n).toInt ∧ (nI n).toInt ≤ (30 : Int64).toInt from ⟨g2, g3⟩)]
      simp only [Option.bind_some]
      rw [if_neg z_10, e60, z_isG, if_pos (show (0 : Int64).toInt ≤ (nI b).toInt ∧ (nI b).toInt ≤ ((nI (60 - n)).toInt64).toInt from ⟨g1, by rw [Int32.toInt_toInt64, nI_toInt (n := 60 - n) (by omega), hbx]; omega⟩)]
      simp only [Option.bind_some]
      rw [if_neg z_10, k.1.1, if_neg (nI_ne0 h0 (by omega)), pc, ← pm]
      exact em
  · refine ⟨-1, M, N, ?_, ?_, z_Fr.rf, z_VK.rf, hS⟩
    · unfold f_Sp_encore
      rw [h.2.1, h.2.2.1.1]
      by_cases c0 : A 0 0 = 0
      · rw [c0]; rfl
      rw [if_neg (nI_ne0 (by omega) (by omega))]
      have a1 : x < 0 ↔ x.toInt < 0 := Int32.lt_iff_toInt_lt
      by_cases c1 : x < 0
      · rw [if_pos c1]
      rw [if_neg c1]
      have a2 : 60 < x ↔ 60 < x.toInt := Int32.lt_iff_toInt_lt
      by_cases c2 : 60 < x
      · rw [if_pos c2]
      rw [if_neg c2]
      have a3 : y < 1 ↔ y.toInt < 1 := Int32.lt_iff_toInt_lt
      by_cases c3 : y < 1
      · rw [if_pos c3]
      rw [if_neg c3]
      have a4 : 30 < y ↔ 30 < y.toInt := Int32.lt_iff_toInt_lt
      by_cases c4 : 30 < y
      · rw [if_pos c4]
      rw [if_neg c4]
      rw [a1] at c1; rw [a2] at c2; rw [a3] at c3; rw [a4] at c4
      obtain ⟨b, hb, rfl, hbx⟩ := z_nIof (x := x) (by omega)
      obtain ⟨n, hn, rfl, hny⟩ := z_nIof (x := y) (by omega)
      rw [nI_add, show (60 : Int32) = nI 60 from rfl, if_pos (nI_lt (by omega) (by omega))]
    · unfold f_Mo_encore
      rw [z_isG]
      simp only [Option.bind_some]
      by_cases c3 : (1 : Int64).toInt ≤ y.toInt ∧ y.toInt ≤ (30 : Int64).toInt
      · rw [if_pos c3, if_neg z_10, z_isG]
        have c3a : (1 : Int) ≤ y.toInt := c3.1
        have c3b : y.toInt ≤ (30 : Int) := c3.2
        obtain ⟨n, hn, rfl, hny⟩ := z_nIof (x := y) (by omega)
        have e60 : (60 : Int32) - nI n = nI (60 - n) := z_sub (a := 60) (b := n) (by omega)
        rw [e60, Int32.toInt_toInt64, nI_toInt (by omega)]
        simp only [Option.bind_some]
        by_cases c1 : (0 : Int64).toInt ≤ x.toInt ∧ x.toInt ≤ ((60 - n : Nat) : Int)
        · have c1a : (0 : Int) ≤ x.toInt := c1.1
          have c1b := c1.2
          rw [if_pos c1, if_neg z_10, k.1.1]
          have c0 : A 0 0 = 0 := by omega
          rw [c0]; rfl
        · rw [if_neg c1]; rfl
      · rw [if_neg c3]; rfl
/-! trout -/
def z_dm (m : Nat) : Nat := (1103515245 * m + 12345) % 2147483648
theorem z_dm_b (m : Nat) : z_dm m < 2 ^ 31 := Nat.mod_lt _ (by decide)
def z_DK (M M' : SM) : Prop := M'.1 = M.1 ∧ (∀ i, i ≠ 0 → M'.2 i = M.2 i)
def z_EK (M M' : SM) : Prop := M'.1 = M.1 ∧ (∀ i, i ≠ 366 → M'.2 i = M.2 i) ∧ (∀ k, k ≠ 67 → M'.2 366 k = M.2 366 k)
theorem z_DK.tr {M M' M'' : SM} (h : z_DK M M') (k : z_DK M' M'') : z_DK M M'' := ⟨k.1.trans h.1, fun i q => (k.2 i q).trans (h.2 i q)⟩
theorem z_EK.tr {M M' M'' : SM} (h : z_EK M M') (k : z_EK M' M'') : z_EK M M'' := ⟨k.1.trans h.1, fun i q => (k.2.1 i q).trans (h.2.1 i q), fun i q => (k.2.2 i q).trans (h.2.2 i q)⟩
theorem z_CB.dk {M' : SM} (h : z_CB o A nm P M) (k : z_DK M M') : z_CB o A nm P M' := by
  obtain ⟨h1, h2, h3, h4, h5, h6⟩ := h
  refine ⟨h1, by rw [k.1]; exact h2, h3.fr (fun i _ _ => by rw [k.1]), fun d hd => by rw [k.1]; exact h4 d hd, fun q => (h5 q).fr (Nat.le_refl _) (fun i _ _ => by rw [k.1]), by rw [k.1]; exact h6⟩
theorem z_MB.ek {N' : SM} (h : z_MB A nm P N) (k : z_EK N N') : z_MB A nm P N' := by
  obtain ⟨h1, h2, h3, h4, h5⟩ := h
  exact ⟨h1.fr (by rw [k.1]) (fun i _ _ _ => by rw [k.1]), h2.fr (by rw [k.1]), fun q => (h3 q).fr (fun i _ _ => by rw [k.1]), by unfold z_NS; rw [k.1]; exact h4, fun i w hi hw => by rw [k.2.1 386 (by decide)]; exact h5 i w hi hw⟩
theorem c_draw {m : Nat} (hm : m < 2 ^ 31) (h : M.2 0 12 = lN m) : f_Sp_draw 0 3 M = some (nI (z_dm m / 64 % 3), sL M 0 12 (lN (z_dm m))) := by
  unfold f_Sp_draw
  rw [if_pos (show (0 : Int32) < 3 by decide), if_neg (show ¬ (3 : Int32).toInt64 = 0 by decide), h, z_draw hm]
  have hb := z_dm_b m
  show some (Int64.toInt32 (lN (z_dm m) / 64 - lN (z_dm m) / 64 / Int32.toInt64 3 * Int32.toInt64 3), _) = _
  rw [show Int32.toInt64 3 = lN 3 from rfl, show (64 : Int64) = lN 64 from rfl, z_lNdiv (by omega) (by decide) (by decide), z_lNdiv (by omega) (by decide) (by decide), lN_mul, lN_sub (Nat.div_mul_le_self _ _), z_modl, lN_i]
  rfl
theorem m_draw {m : Nat} (hm : m < 2 ^ 31) (h : N.2 366 67 = lN m) : f_Mo_drawOf 366 3 N = some (nI (z_dm m / 64 % 3), sL N 366 67 (lN (z_dm m))) := by
  unfold f_Mo_drawOf
  rw [if_neg (show ¬ (3 : Int32).toInt64 = 0 by decide), h, z_draw2 hm]
  have hb := z_dm_b m
  show some (Int64.toInt32 (lN (z_dm m) / 64 - lN (z_dm m) / 64 / Int32.toInt64 3 * Int32.toInt64 3), _) = _
  rw [show Int32.toInt64 3 = lN 3 from rfl, show (64 : Int64) = lN 64 from rfl, z_lNdiv (by omega) (by decide) (by decide), z_lNdiv (by omega) (by decide) (by decide), lN_mul, lN_sub (Nat.div_mul_le_self _ _), z_modl, lN_i]
  rfl
theorem z_sLs (M : SM) (a k : Nat) (v : Int64) : (sL M a k v).2 a k = v := by rw [z_sL, if_pos rfl, if_pos rfl]
theorem g_swim (hW : z_WB A nm P) (hb : b ≤ 60) : ∀ j c l m M N, z_CB o A nm P M → z_MB A nm P N → c < A 0 0 → 1 ≤ l → l + j = b + 1 → m < 2 ^ 31 → M.2 0 12 = lN m → N.2 366 67 = lN m →
    ∃ M' N' m', z_DK M M' ∧ z_EK N N' ∧ m' < 2 ^ 31 ∧ M'.2 0 12 = lN m' ∧ N'.2 366 67 = lN m' ∧ ((∀ n, j < n → lp_Sp_swims_5 0 (nI b) n (nI c) (nI l) M = some (.inl M') ∧ lp_Mo_isLeft_5 366 (nI b) n (nI c) (nI l) N = some (.inl N')) ∨ (∀ n, j < n → lp_Sp_swims_5 0 (nI b) n (nI c) (nI l) M = some (.inr (0, M')) ∧ lp_Mo_isLeft_5 366 (nI b) n (nI c) (nI l) N = some (.inr (0, N')))) := by
  have hc0 := hW.1.1
  intro j
  induction j with
  | zero =>
    intro c l m M N hC hM hc hl h2 hm e1 e2
    refine ⟨M, N, m, ⟨rfl, fun _ _ => rfl⟩, ⟨rfl, fun _ _ => rfl, fun _ _ => rfl⟩, hm, e1, e2, Or.inl (fun n hn => ?_)⟩
    obtain ⟨n, rfl⟩ : ∃ n', n = n' + 1 := ⟨n - 1, by omega⟩
    rw [lp_Sp_swims_5, lp_Mo_isLeft_5, if_pos (nI_lt (by omega) (by omega)), if_pos (nI_lt (by omega) (by omega))]
    exact ⟨rfl, rfl⟩
  | succ j ih =>
    intro c l m M N hC hM hc hl h2 hm e1 e2
    have hG := r_v_G (A := A) (al := z_pa P) hW.1 l
    have hw := hG.1 c hc
    have f1 := c_water hW hC (b := l) hc (by omega)
    have f2 := m_deepA hW hM (b := l) hc (by omega)
    have D1 : z_DK M (sL M 0 12 (lN (z_dm m))) := ⟨rfl, fun i q => sL_ne _ _ _ q⟩
    have E1 : z_EK N (sL N 366 67 (lN (z_dm m))) := ⟨rfl, fun i q => sL_ne _ _ _ q, fun k q => by rw [z_sL, if_pos rfl, if_neg q]⟩
    have hC1 := hC.dk D1
    have hM1 := hM.ek E1
    by_cases hz : (r_v A (z_pa P) l).1 c = 0
    · refine ⟨M, N, m, ⟨rfl, fun _ _ => rfl⟩, ⟨rfl, fun _ _ => rfl, fun _ _ => rfl⟩, hm, e1, e2, Or.inr (fun n hn => ?_)⟩
      obtain ⟨n, rfl⟩ : ∃ n', n = n' + 1 := ⟨n - 1, by omega⟩
      rw [lp_Sp_swims_5, lp_Mo_isLeft_5, if_neg (nI_nlt (by omega) (by omega)), if_neg (nI_nlt (by omega) (by omega)), jp_0_6, f1, jm_59, zl_12, pk_mul, nI_add, f2, hz]
      simp only [Option.bind_some]
      rw [if_neg (show ¬ (0 : Int32) < nI 0 by decide), if_pos (show nI 0 = 0 from rfl)]
      exact ⟨rfl, rfl⟩
    · -- where it goes
      have step : ∃ c', c' < A 0 0 ∧ ∀ n, lp_Sp_swims_5 0 (nI b) (n + 1) (nI c) (nI l) M = lp_Sp_swims_5 0 (nI b) n (nI c') (nI (l + 1)) (sL M 0 12 (lN (z_dm m))) ∧ lp_Mo_isLeft_5 366 (nI b) (n + 1) (nI c) (nI l) N = lp_Mo_isLeft_5 366 (nI b) n (nI c') (nI (l + 1)) (sL N 366 67 (lN (z_dm m))) := by
        generalize hx : (if nI (z_dm m / 64 % 3) = 1 then nI c - 1 else if nI (z_dm m / 64 % 3) = 2 then nI c + 1 else nI c : Int32) = x
        have ec : ∀ n, lp_Sp_swims_5 0 (nI b) (n + 1) (nI c) (nI l) M = (if z_q x (A 0 0) then ((f_Ru_water 132 (nI l) x (sL M 0 12 (lN (z_dm m)))).bind fun q11 => if 0 < q11 then (some x) else (some (nI c))) else some (nI c)).bind fun q9 => lp_Sp_swims_5 0 (nI b) n q9 (nI (l + 1)) (sL M 0 12 (lN (z_dm m))) := fun n => by
          rw [lp_Sp_swims_5, if_neg (nI_nlt (by omega) (by omega)), jp_0_6, f1]
          simp only [Option.bind_some]
          rw [if_pos (show (0 : Int32) < nI _ from nI_lt (a := 0) (by omega) (by omega)), c_draw hm e1]
          simp only [Option.bind_some]
          rw [show (if nI (z_dm m / 64 % 3) = 1 then some (nI c - 1) else if nI (z_dm m / 64 % 3) = 2 then some (nI c + 1) else some (nI c) : Option Int32) = some x by rw [← hx]; split; rfl; split <;> rfl]
          simp only [Option.bind_some]
          rw [c_isCell hW hC1, nI_1]
          simp only [Option.bind_some]
          by_cases q : z_q x (A 0 0)
          · rw [z_b1 q, if_pos q]
          · rw [z_b0 q, if_neg q]
        have em : ∀ n, lp_Mo_isLeft_5 366 (nI b) (n + 1) (nI c) (nI l) N = (if z_q x (A 0 0) then ((aI (sL N 366 67 (lN (z_dm m))) 401 (nI (12 * l) + x)).bind fun q11 => if 0 < q11 then (some x) else (some (nI c))) else some (nI c)).bind fun q9 => lp_Mo_isLeft_5 366 (nI b) n q9 (nI (l + 1)) (sL N 366 67 (lN (z_dm m))) := fun n => by
          rw [lp_Mo_isLeft_5, if_neg (nI_nlt (by omega) (by omega)), jm_59, zl_12, pk_mul, nI_add, f2]
          simp only [Option.bind_some]
          rw [if_neg (nI_ne0 (by omega) (by omega)), m_draw hm e2]
          simp only [Option.bind_some]
          rw [show (if nI (z_dm m / 64 % 3) = 1 then some (nI c - 1) else if nI (z_dm m / 64 % 3) = 2 then some (nI c + 1) else some (nI c) : Option Int32) = some x by rw [← hx]; split; rfl; split <;> rfl]
          simp only [Option.bind_some]
          rw [m_isCell hW hM1, nI_1]
          simp only [Option.bind_some]
          by_cases q : z_q x (A 0 0)
          · rw [z_b1 q, if_pos q]
          · rw [z_b0 q, if_neg q]
        by_cases q : z_q x (A 0 0)
        · obtain ⟨c', hc', rfl⟩ := z_q_of (by omega) q
          have k1 := c_water hW hC1 (b := l) hc' (by omega)
          have k2 := m_deepA hW hM1 (b := l) hc' (by omega)
          by_cases w : 0 < nI ((r_v A (z_pa P) l).1 c')
          · exact ⟨c', hc', fun n => ⟨by rw [ec, if_pos q, k1]; simp only [Option.bind_some, if_pos w], by rw [em, if_pos q, nI_add, k2]; simp only [Option.bind_some, if_pos w]⟩⟩
          · exact ⟨c, hc, fun n => ⟨by rw [ec, if_pos q, k1]; simp only [Option.bind_some, if_neg w], by rw [em, if_pos q, nI_add, k2]; simp only [Option.bind_some, if_neg w]⟩⟩
        · exact ⟨c, hc, fun n => ⟨by rw [ec, if_neg q]; rfl, by rw [em, if_neg q]; rfl⟩⟩
      obtain ⟨c', hc', st⟩ := step
      obtain ⟨M', N', m', D, E, hm', s1, s2, hr⟩ := ih c' (l + 1) (z_dm m) (sL M 0 12 (lN (z_dm m))) (sL N 366 67 (lN (z_dm m))) hC1 hM1 hc' (by omega) (by omega) (z_dm_b m) (z_sLs _ _ _ _) (z_sLs _ _ _ _)
      refine ⟨M', N', m', D1.tr D, E1.tr E, hm', s1, s2, ?_⟩
      rcases hr with hr | hr
      · refine Or.inl (fun n hn => ?_)
        obtain ⟨n, rfl⟩ : ∃ n', n = n' + 1 := ⟨n - 1, by omega⟩
        rw [(st n).1, (st n).2]; exact hr n (by omega)
      · refine Or.inr (fun n hn => ?_)
        obtain ⟨n, rfl⟩ : ∃ n', n = n' + 1 := ⟨n - 1, by omega⟩
        rw [(st n).1, (st n).2]; exact hr n (by omega)
theorem g_swims {c m : Nat} (hW : z_WB A nm P) (hC : z_CB o A nm P M) (hM : z_MB A nm P N) (hb : b ≤ 60) (hc : c < A 0 0) (hm : m < 2 ^ 31) (e1 : M.2 0 12 = lN m) (e2 : N.2 366 67 = lN m) :
    ∃ v M' N' m', (v = 0 ∨ v = 1) ∧ f_Sp_swims 0 (nI c) (nI b) M = some (v, M') ∧ f_Mo_isLeft 366 (nI c) (nI b) N = some (v, N') ∧ z_DK M M' ∧ z_EK N N' ∧ m' < 2 ^ 31 ∧ M'.2 0 12 = lN m' ∧ N'.2 366 67 = lN m' := by
  obtain ⟨M', N', m', D, E, hm', s1, s2, hr⟩ := g_swim (b := b) hW hb b c 1 m M N hC hM hc (by decide) (by omega) hm e1 e2
  unfold f_Sp_swims f_Mo_isLeft
  rcases hr with hr | hr
  · have h3 := hr jfuel (by rw [z_jf]; omega)
    rw [show nI 1 = (1 : Int32) from rfl] at h3
    rw [h3.1, h3.2]
    exact ⟨1, M', N', m', Or.inr rfl, rfl, rfl, D, E, hm', s1, s2⟩
  · have h3 := hr jfuel (by rw [z_jf]; omega)
    rw [show nI 1 = (1 : Int32) from rfl] at h3
    rw [h3.1, h3.2]
    exact ⟨0, M', N', m', Or.inl rfl, rfl, rfl, D, E, hm', s1, s2⟩
theorem g_trouts {c k : Nat} (hW : z_WB A nm P) (hb : b ≤ 60) (hc : c < A 0 0) (hk : k ≤ 50) : ∀ j i s m M N, z_CB o A nm P M → z_MB A nm P N → i + j = k → m < 2 ^ 31 → M.2 0 12 = lN m → N.2 366 67 = lN m →
    ∃ v M' N' m', z_DK M M' ∧ z_EK N N' ∧ m' < 2 ^ 31 ∧ M'.2 0 12 = lN m' ∧ N'.2 366 67 = lN m' ∧ ∀ n, j < n → lp_Sp_trout_34 0 (nI c) (nI k) (nI b) n s (nI i) M = some (v, M') ∧ lp_Mo_trout_35 366 (nI c) (nI k) (nI b) n s (nI i) N = some (v, N') := by
  intro j
  induction j with
  | zero =>
    intro i s m M N hC hM h2 hm e1 e2
    refine ⟨s, M, N, m, ⟨rfl, fun _ _ => rfl⟩, ⟨rfl, fun _ _ => rfl, fun _ _ => rfl⟩, hm, e1, e2, fun n hn => ?_⟩
    obtain ⟨n, rfl⟩ : ∃ n', n = n' + 1 := ⟨n - 1, by omega⟩
    rw [lp_Sp_trout_34, lp_Mo_trout_35, if_neg (nI_nlt (by omega) (by omega)), if_neg (nI_nlt (by omega) (by omega))]
    exact ⟨rfl, rfl⟩
  | succ j ih =>
    intro i s m M N hC hM h2 hm e1 e2
    obtain ⟨v, M1, N1, m1, hv, ec, em, D1, E1, hm1, s1, s2⟩ := g_swims (b := b) (c := c) hW hC hM hb hc hm e1 e2
    obtain ⟨w, M', N', m', D, E, hm', t1, t2, hr⟩ := ih (i + 1) (if v = 0 then s else s + 1) m1 M1 N1 (hC.dk D1) (hM.ek E1) (by omega) hm1 s1 s2
    refine ⟨w, M', N', m', D1.tr D, E1.tr E, hm', t1, t2, fun n hn => ?_⟩
    obtain ⟨n, rfl⟩ : ∃ n', n = n' + 1 := ⟨n - 1, by omega⟩
    have h3 := hr n (by omega)
    rw [lp_Sp_trout_34, lp_Mo_trout_35, if_pos (nI_lt (by omega) (by omega)), if_pos (nI_lt (by omega) (by omega)), ec, em, nI_1]
    simp only [Option.bind_some]
    rcases hv with rfl | rfl
    · rw [if_pos rfl] at h3; exact h3
    · rw [if_neg z_10] at h3; exact h3
theorem g_trout {m : Nat} (hW : z_WB A nm P) (h : z_CB o A nm P M) (k : z_MB A nm P N) (hm : m < 2 ^ 31) (e1 : M.2 0 12 = lN m) (e2 : N.2 366 67 = lN m) (x y z : Int32) :
    ∃ v M' N' m', f_Sp_trout 0 x y z M = some (v, M') ∧ f_Mo_trout 366 x y z N = some (v, N') ∧ z_DK M M' ∧ z_EK N N' ∧ m' < 2 ^ 31 ∧ M'.2 0 12 = lN m' ∧ N'.2 366 67 = lN m' := by
  have hc0 := hW.1.1
  unfold f_Sp_trout f_Mo_trout
  rw [c_isCell hW h, m_isCell hW k, c_isBar, m_isBar, z_isG]
  simp only [Option.bind_some]
  have a3 : y < 1 ↔ y.toInt < 1 := Int32.lt_iff_toInt_lt
  have a4 : 50 < y ↔ 50 < y.toInt := Int32.lt_iff_toInt_lt
  by_cases q : z_q x (A 0 0)
  · rw [z_b1 q, z_b1 q]
    by_cases c3 : y < 1
    · rw [if_pos c3, if_neg (show ¬ ((1 : Int64).toInt ≤ y.toInt ∧ y.toInt ≤ (50 : Int64).toInt) from fun t => by have := a3.mp c3; have t1 : (1 : Int) ≤ y.toInt := t.1; omega)]
      exact ⟨-1, M, N, m, rfl, rfl, ⟨rfl, fun _ _ => rfl⟩, ⟨rfl, fun _ _ => rfl, fun _ _ => rfl⟩, hm, e1, e2⟩
    rw [if_neg c3]
    by_cases c4 : 50 < y
    · rw [if_pos c4, if_neg (show ¬ ((1 : Int64).toInt ≤ y.toInt ∧ y.toInt ≤ (50 : Int64).toInt) from fun t => by have := a4.mp c4; have t1 : y.toInt ≤ (50 : Int) := t.2; omega)]
      exact ⟨-1, M, N, m, rfl, rfl, ⟨rfl, fun _ _ => rfl⟩, ⟨rfl, fun _ _ => rfl, fun _ _ => rfl⟩, hm, e1, e2⟩
    have d3 : 1 ≤ y.toInt := Int.not_lt.mp (fun t => c3 (a3.mpr t))
    have d4 : y.toInt ≤ 50 := Int.not_lt.mp (fun t => c4 (a4.mpr t))
    rw [if_neg c4, if_pos (show ((1 : Int64).toInt ≤ y.toInt ∧ y.toInt ≤ (50 : Int64).toInt) from ⟨d3, d4⟩), if_neg z_10]
    by_cases r : z_q z 61
    · rw [z_b1 r, z_b1 r]
      obtain ⟨c, hc, rfl⟩ := z_q_of (by omega) q
      obtain ⟨b, hb, rfl⟩ := z_q_of (by decide) r
      obtain ⟨w, hw, rfl, hwy⟩ := z_nIof (x := y) (by omega)
      obtain ⟨v, M', N', m', D, E, hm', t1, t2, hr⟩ := g_trouts (c := c) (k := w) (b := b) hW (by omega) hc (by omega) w 0 0 m M N h k (by omega) hm e1 e2
      have h3 := hr jfuel (by rw [z_jf]; omega)
      rw [nI_0] at h3
      rw [h3.1, h3.2]
      exact ⟨v, M', N', m', rfl, rfl, D, E, hm', t1, t2⟩
    · rw [z_b0 r, z_b0 r]
      exact ⟨-1, M, N, m, rfl, rfl, ⟨rfl, fun _ _ => rfl⟩, ⟨rfl, fun _ _ => rfl, fun _ _ => rfl⟩, hm, e1, e2⟩
  · rw [z_b0 q, z_b0 q]
    exact ⟨-1, M, N, m, rfl, rfl, ⟨rfl, fun _ _ => rfl⟩, ⟨rfl, fun _ _ => rfl, fun _ _ => rfl⟩, hm, e1, e2⟩
theorem g_seed {m : Nat} (hm : m < 2 ^ 31) (e1 : M.2 0 12 = lN m) (e2 : N.2 366 67 = lN m) (x : Int32) :
    ∃ v M' N' m', f_Sp_seed 0 x M = some (v, M') ∧ f_Mo_seed 366 x N = some (v, N') ∧ z_DK M M' ∧ z_EK N N' ∧ m' < 2 ^ 31 ∧ M'.2 0 12 = lN m' ∧ N'.2 366 67 = lN m' := by
  unfold f_Sp_seed f_Mo_seed
  by_cases c : x < 0
  · rw [if_pos c, if_pos c]
    exact ⟨0, M, N, m, rfl, rfl, ⟨rfl, fun _ _ => rfl⟩, ⟨rfl, fun _ _ => rfl, fun _ _ => rfl⟩, hm, e1, e2⟩
  · rw [if_neg c, if_neg c]
    obtain ⟨j, hj, rfl⟩ := nI_of c
    refine ⟨1, _, _, j, rfl, rfl, ⟨rfl, fun i q => sL_ne _ _ _ q⟩, ⟨rfl, fun i q => sL_ne _ _ _ q, fun k q => by rw [z_sL, if_pos rfl, if_neg q]⟩, hj, ?_, ?_⟩
    · rw [z_sLs, nI_l hj]
    · rw [z_sLs, nI_l hj]
end
