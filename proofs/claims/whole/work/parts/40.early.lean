/-! ===== pure: who came in early ===== -/
theorem z_10 : ¬ (1 : Int32) = 0 := by decide
theorem z_su_l {P : ZP} {h l d b : Nat} (hb : b < l) : z_su P 0 h l 0 d b = z_pa P d b := by
  unfold z_su
  rw [if_neg (by rw [Nat.zero_testBit]; decide), if_neg (by omega)]; rfl
/-- whether the river is so when a DESK left a BAR out -/
def z_hit (A : ZA) (P : ZP) (wv : Nat → Nat) (b d l : Nat) : Prop := ∀ c, c < A 0 0 → (r_v A (z_su P 0 d l 0) b).1 c = wv c
section
variable {o : Nat} {A : ZA} {nm : Nat → Nat → Nat} {P : ZP} {M N : SM} {b d l : Nat} {wv : Nat → Nat}
theorem c_without (hW : z_WB A nm P) (h : z_CB o A nm P M) (h0 : 0 < A 0 0) (hwv : ∀ c, c < A 0 0 → M.1 364 c = nI (wv c) ∧ wv c < 256) (hd : d < A 0 3) (hl : 1 ≤ l) (hlb : l ≤ b) (hb : b ≤ 60) :
    z_ok (f_Sp_isWetWithout 0 (nI d) (nI l) (nI b) M) (fun r => ((r.1 = 1 ∧ z_hit A P wv b d l) ∨ (r.1 = 0 ∧ ¬ z_hit A P wv b d l)) ∧ z_Fr (fun i => i < 319 ∨ 321 < i) M r.2) := by
  have hd8 := hW.1.2.1
  have hc0 := hW.1.1
  unfold f_Sp_isWetWithout
  rw [jp_0_7, jp_0_6, z_ls hl]
  refine z_bind (c_begin (b := l - 1) hW h h0 (by omega)) (fun M1 h1 => ?_)
  obtain ⟨⟨pf, P1, P1'⟩, F1, g7, g8, g9, g10⟩ := h1
  generalize hM2 : sI (sI M1 319 8 (nI d)) 319 9 (nI l) = M2
  have F2 : z_Fr (fun i => i < 319 ∨ 321 < i) M M2 := by rw [← hM2]; exact (F1.sI (by omega)).sI (by omega)
  have hC2 : z_CB o A nm P M2 := h.fr hW F2
  have e0 : r_v A (z_su P 0 d l 0) (l - 1) = r_v A (z_pa P) (l - 1) := r_v_cg (fun j hj d' hd' => z_su_l (by omega))
  have hP2 : z_P3 A (r_v A (z_su P 0 d l 0) (l - 1)).1 (r_v A (z_su P 0 d l 0) (l - 1)).2.1 pf M2 := by
    rw [e0, ← hM2]
    exact ⟨fun c hc => P1.1 c hc, fun c hc => P1.2.1 c hc, fun k hk => by rw [z_sIk _ _ _ _ (by omega), z_sIk _ _ _ _ (by omega)]; exact P1.2.2 k hk⟩
  have t7 : M2.1 319 7 = nI 0 := by rw [← hM2, z_sIk _ _ _ _ (by decide), z_sIk _ _ _ _ (by decide)]; exact g7
  have t8 : M2.1 319 8 = nI d := by rw [← hM2, z_sIk _ _ _ _ (by decide), z_sIs]
  have t9 : M2.1 319 9 = nI l := by rw [← hM2, z_sIs]
  have t10 : M2.1 319 10 = nI 0 := by rw [← hM2, z_sIk _ _ _ _ (by decide), z_sIk _ _ _ _ (by decide)]; exact g10
  have hpl := c_plays (lp := lp_Sp_isWetWithout_33 0 (nI b)) (y := b) (b0 := l - 1) (al := z_su P 0 d l 0) (M := M2) hW.1 (hW.2.2.1 h0) h.1 hC2.2.1 hC2.2.2.1 (fun n x M' => by rw [lp_Sp_isWetWithout_33]) rfl (by omega) (by omega) hP2 (fun k hk => by rw [e0]; exact P1' k hk) (fun b d hd => z_su_b hW.2.1 hd) (fun b' q1 q2 M' hK d' hd' => by
    have hT : z_TC o (A 0 3) P M' := hC2.2.2.2.1.fr hd8 (fun i a1 a2 => hK.1.1 i (by have := h.1; omega))
    exact c_act h.1 hd8 hW.2.1 hT (by decide) ((hK.2 7 (by decide)).trans t7) (Or.inl ((hK.2 8 (by decide)).trans t8)) (by omega) (by omega) ((hK.2 9 (by decide)).trans t9) ((hK.2 10 (by decide)).trans t10) hd' (Nat.zero_le _) (by omega))
  rw [show l - 1 + 1 = l by omega] at hpl
  refine z_bind hpl (fun M3 h3 => ?_)
  obtain ⟨⟨pf3, P3, _⟩, K3⟩ := h3
  have F3 : z_Fr (fun i => i < 319 ∨ 321 < i) M M3 := F2.tr K3.1
  have hC3 := h.fr hW F3
  have G3 := r_v_G (A := A) (al := z_su P 0 d l 0) hW.1 b
  refine z_jsb (P := fun t => (t = .inl () ∧ z_hit A P wv b d l) ∨ (t = .inr (0, M3) ∧ ¬ z_hit A P wv b d l)) ?_ (fun e he => ?_) (fun r hr => ?_)
  · show z_ok (lp_Sp_isWetWithout_61 0 M3 jfuel (nI 0)) _
    refine z_loop0 (fun n c => lp_Sp_isWetWithout_61 0 M3 n c) (fun c => ∀ j, j < c → (r_v A (z_su P 0 d l 0) b).1 j = wv j) _ (A 0 0) ?_ ?_ jfuel 0 (by omega) (by rw [z_jf]; omega) (fun j hj => by omega)
    · intro n c hc hI k
      have hw := hwv c hc
      have hg := G3.1 c hc
      show z_ok (lp_Sp_isWetWithout_61 0 M3 (n + 1) (nI c)) _
      rw [lp_Sp_isWetWithout_61, hC3.2.1, hC3.2.2.1.1, jp_0_7, jp_319_0, jp_0_10]
      refine z_pos (nI_lt hc (by omega)) ?_
      refine z_eq (za_320 _ (by omega)) ?_
      refine z_eq (za_364 _ (by omega)) ?_
      rw [P3.1 c hc, F3.1 364 (by omega), hw.1, nI_1]
      refine z_ee _ _ rfl rfl (by omega) (by omega) (fun e => k (fun j hj => ?_)) (fun e => z_some (Or.inr ⟨rfl, fun q => e (q c hc)⟩))
      by_cases e2 : j = c
      · rw [e2]; exact e
      · exact hI j (by omega)
    · intro n hI
      show z_ok (lp_Sp_isWetWithout_61 0 M3 (n + 1) (nI (A 0 0))) _
      rw [lp_Sp_isWetWithout_61, hC3.2.1, hC3.2.2.1.1]
      exact z_neg (nI_nlt (Nat.le_refl _) (by omega)) (z_some (Or.inl ⟨rfl, hI⟩))
  · rcases he with he | he
    · exact z_some ⟨Or.inl ⟨rfl, he.2⟩, F3⟩
    · cases he.1
  · rcases hr with hr | hr
    · cases hr.1
    · have e := Sum.inr.inj hr.1
      subst e
      exact ⟨Or.inr ⟨rfl, hr.2⟩, F3⟩
theorem m_isEarly (hW : z_WB A nm P) (h : z_MB A nm P N) (h0 : 0 < A 0 0) (hwv : ∀ c, c < A 0 0 → N.1 405 c = nI (wv c) ∧ wv c < 256) (hd : d < A 0 3) (hl : l < 1000) (hb : b ≤ 60) :
    z_ok (f_Mo_isEarly 366 (nI d) (nI l) (nI b) N) (fun r => ((r.1 = 1 ∧ z_hit A P wv b d l) ∨ (r.1 = 0 ∧ ¬ z_hit A P wv b d l)) ∧ z_VK N r.2 ∧ z_NS r.2) := by
  have hd8 := hW.1.2.1
  have hc0 := hW.1.1
  have hR := hW.2.2.1 h0
  have hV : z_VK N (sI (sI N 366 48 (nI d)) 366 49 (nI l)) := (z_VK.rf.s (by decide) (by decide)).s (by decide) (by decide)
  unfold f_Mo_isEarly
  refine z_bind (m_goesTo (s := 0) (h := d) (l := l) hW.1 hR (h.1.vk hV) hW.2.1 (h.2.1.vk hV) (by decide) ((z_sIk _ _ _ _ (by decide)).trans ((z_sIk _ _ _ _ (by decide)).trans h.2.2.2.1.1)) (Or.inl ⟨(z_sIk _ _ _ _ (by decide)).trans (z_sIs _ _ _ _), z_sIs _ _ _ _⟩) (by omega) (by omega) ((z_sIk _ _ _ _ (by decide)).trans ((z_sIk _ _ _ _ (by decide)).trans h.2.2.2.1.2.2)) hb) (fun N1 h1 => ?_)
  obtain ⟨⟨pf, P1⟩, K1⟩ := h1
  have hV1 : z_VK N (sI N1 366 48 (-1)) := (hV.tr K1.vk).s (by decide) (by decide)
  have hS1 : z_NS (sI N1 366 48 (-1)) := ⟨(z_sIk _ _ _ _ (by decide)).trans ((K1.2 47 (by decide)).trans ((z_sIk _ _ _ _ (by decide)).trans ((z_sIk _ _ _ _ (by decide)).trans h.2.2.2.1.1))), z_sIs _ _ _ _, (z_sIk _ _ _ _ (by decide)).trans ((K1.2 50 (by decide)).trans ((z_sIk _ _ _ _ (by decide)).trans ((z_sIk _ _ _ _ (by decide)).trans h.2.2.2.1.2.2)))⟩
  have P2 : ∀ c, c < A 0 0 → (sI N1 366 48 (-1)).1 399 c = nI ((r_v A (z_su P 0 d l 0) b).1 c) := fun c hc => P1.1 c hc
  generalize sI N1 366 48 (-1) = N2 at hV1 hS1 P2
  have hO2 := h.1.vk hV1
  have G3 := r_v_G (A := A) (al := z_su P 0 d l 0) hW.1 b
  refine z_bind (P := fun v => (v = 1 ∧ z_hit A P wv b d l) ∨ (v = 0 ∧ ¬ z_hit A P wv b d l)) ?_ (fun v hv => ?_)
  · unfold f_Mo_isAsWet
    refine z_jsb (P := fun t => (t = .inl () ∧ z_hit A P wv b d l) ∨ (t = .inr 0 ∧ ¬ z_hit A P wv b d l)) ?_ (fun e he => ?_) (fun r hr => ?_)
    · show z_ok (lp_Mo_isAsWet_2 366 N2 jfuel (nI 0)) _
      refine z_loop0 (fun n c => lp_Mo_isAsWet_2 366 N2 n c) (fun c => ∀ j, j < c → (r_v A (z_su P 0 d l 0) b).1 j = wv j) _ (A 0 0) ?_ ?_ jfuel 0 (by omega) (by rw [z_jf]; omega) (fun j hj => by omega)
      · intro n c hc hI k
        have hw := hwv c hc
        have hg := G3.1 c hc
        show z_ok (lp_Mo_isAsWet_2 366 N2 (n + 1) (nI c)) _
        rw [lp_Mo_isAsWet_2, hO2.1, jm_52, jm_66]
        refine z_pos (nI_lt hc (by omega)) ?_
        refine z_eq (zi_399 _ (by omega)) ?_
        refine z_eq (zi_405 _ (by omega)) ?_
        rw [P2 c hc, hV1.1.1 405 (by omega), hw.1, nI_1]
        refine z_ee _ _ rfl rfl (by omega) (by omega) (fun e => k (fun j hj => ?_)) (fun e => z_some (Or.inr ⟨rfl, fun q => e (q c hc)⟩))
        by_cases e2 : j = c
        · rw [e2]; exact e
        · exact hI j (by omega)
      · intro n hI
        show z_ok (lp_Mo_isAsWet_2 366 N2 (n + 1) (nI (A 0 0))) _
        rw [lp_Mo_isAsWet_2, hO2.1]
        exact z_neg (nI_nlt (Nat.le_refl _) (by omega)) (z_some (Or.inl ⟨rfl, hI⟩))
    · rcases he with he | he
      · exact z_some (Or.inl ⟨rfl, he.2⟩)
      · cases he.1
    · rcases hr with hr | hr
      · cases hr.1
      · have e := Sum.inr.inj hr.1
        subst e
        exact Or.inr ⟨rfl, hr.2⟩
  · refine z_eq (z_bchk (by rcases hv with q | q; exact Or.inr q.1; exact Or.inl q.1)) (z_some ⟨hv, hV1, hS1⟩)
/-- the BARS of one DESK, both together -/
theorem g_early1 (hW : z_WB A nm P) (h0 : 0 < A 0 0) (hd : d < A 0 3) (hb : b ≤ 60) (y2 : Int32) : ∀ j l f M N, z_CB o A nm P M → z_MB A nm P N → (∀ c, c < A 0 0 → M.1 364 c = nI (wv c) ∧ wv c < 256) → (∀ c, c < A 0 0 → N.1 405 c = nI (wv c) ∧ wv c < 256) → 1 ≤ l → l + j = min b (P.1 d) + 1 →
    ∃ M' N', z_Fr (fun i => i < 319 ∨ 321 < i) M M' ∧ z_VK N N' ∧ z_NS N' ∧ ((∃ g, g ≤ f + j ∧ ∀ n, j < n → lp_Sp_early_63 0 (nI b) y2 (nI d) (nI (min b (P.1 d))) n (nI f) (nI l) M = some (.inl (nI g, M')) ∧ lp_Mo_early_38 366 (nI b) y2 (nI d) n (nI f) (nI l) N = some (.inl (nI g, N'))) ∨
      (∃ v g, y2 = nI g ∧ g ≤ f + j ∧ ∀ n, j < n → lp_Sp_early_63 0 (nI b) y2 (nI d) (nI (min b (P.1 d))) n (nI f) (nI l) M = some (.inr (v, M')) ∧ lp_Mo_early_38 366 (nI b) y2 (nI d) n (nI f) (nI l) N = some (.inr (v, N')))) := by
  have hd8 := hW.1.2.1
  have hp := (hW.2.1 d hd).1
  intro j
  induction j with
  | zero =>
    intro l f M N hC hM hw1 hw2 h1 h2
    refine ⟨M, N, z_Fr.rf, z_VK.rf, hM.2.2.2.1, Or.inl ⟨f, Nat.le_refl _, fun n hn => ?_⟩⟩
    obtain ⟨n, rfl⟩ : ∃ n', n = n' + 1 := ⟨n - 1, by omega⟩
    rw [lp_Sp_early_63, lp_Mo_early_38, if_pos (nI_lt (by omega) (by omega))]
    refine ⟨rfl, ?_⟩
    by_cases e : b < l
    · rw [if_pos (nI_lt e (by omega))]
    · rw [if_neg (nI_nlt (by omega) (by omega)), m_bars hd8 hM.2.1 hd]
      simp only [Option.bind_some]
      rw [if_pos (nI_lt (by omega) (by omega))]
  | succ j ih =>
    intro l f M N hC hM hw1 hw2 h1 h2
    obtain ⟨⟨q, M1⟩, ec, pc⟩ := c_without (d := d) (l := l) (b := b) (wv := wv) hW hC h0 hw1 hd h1 (by omega) hb
    obtain ⟨⟨q', N1⟩, em, pm⟩ := m_isEarly (d := d) (l := l) (b := b) (wv := wv) hW hM h0 hw2 hd (by omega) hb
    obtain ⟨pc, F1⟩ := pc
    obtain ⟨pm, V1, S1⟩ := pm
    have hC1 : z_CB o A nm P M1 := hC.fr hW F1
    have hM1 : z_MB A nm P N1 := hM.vk V1 S1
    have hw1' : ∀ c, c < A 0 0 → M1.1 364 c = nI (wv c) ∧ wv c < 256 := fun c hc => by rw [F1.1 364 (by omega)]; exact hw1 c hc
    have hw2' : ∀ c, c < A 0 0 → N1.1 405 c = nI (wv c) ∧ wv c < 256 := fun c hc => by rw [V1.1.1 405 (by omega)]; exact hw2 c hc
    have e3 : ∀ n, lp_Sp_early_63 0 (nI b) y2 (nI d) (nI (min b (P.1 d))) (n + 1) (nI f) (nI l) M = if q = 0 then lp_Sp_early_63 0 (nI b) y2 (nI d) (nI (min b (P.1 d))) n (nI f) (nI (l + 1)) M1 else if nI f = y2 then some (.inr (100 * nI d + nI l, M1)) else lp_Sp_early_63 0 (nI b) y2 (nI d) (nI (min b (P.1 d))) n (nI (f + 1)) (nI (l + 1)) M1 := fun n => by
      rw [lp_Sp_early_63, if_neg (nI_nlt (by omega) (by omega)), ec, nI_1, nI_1]; rfl
    have e4 : ∀ n, lp_Mo_early_38 366 (nI b) y2 (nI d) (n + 1) (nI f) (nI l) N = if q' = 0 then lp_Mo_early_38 366 (nI b) y2 (nI d) n (nI f) (nI (l + 1)) N1 else if nI f = y2 then some (.inr (100 * nI d + nI l, N1)) else lp_Mo_early_38 366 (nI b) y2 (nI d) n (nI (f + 1)) (nI (l + 1)) N1 := fun n => by
      rw [lp_Mo_early_38, if_neg (nI_nlt (by omega) (by omega)), m_bars hd8 hM.2.1 hd]
      simp only [Option.bind_some]
      rw [if_neg (nI_nlt (by omega) (by omega)), em, nI_1, nI_1]; rfl
    by_cases hh : z_hit A P wv b d l
    · have q1 : q = 1 := by rcases pc with x | x; exact x.1; exact absurd hh x.2
      have q2 : q' = 1 := by rcases pm with x | x; exact x.1; exact absurd hh x.2
      by_cases e : nI f = y2
      · refine ⟨M1, N1, F1, V1, S1, Or.inr ⟨100 * nI d + nI l, f, e.symm, by omega, fun n hn => ?_⟩⟩
        obtain ⟨n, rfl⟩ : ∃ n', n = n' + 1 := ⟨n - 1, by omega⟩
        rw [e3, e4, q1, q2, if_neg z_10, if_neg z_10, if_pos e, if_pos e]; exact ⟨rfl, rfl⟩
      · obtain ⟨M', N', F', V', S', hr⟩ := ih (l + 1) (f + 1) M1 N1 hC1 hM1 hw1' hw2' (by omega) (by omega)
        refine ⟨M', N', F1.tr F', V1.tr V', S', ?_⟩
        rcases hr with ⟨g, hg, hr⟩ | ⟨v, g, hy, hg, hr⟩
        · refine Or.inl ⟨g, by omega, fun n hn => ?_⟩
          obtain ⟨n, rfl⟩ : ∃ n', n = n' + 1 := ⟨n - 1, by omega⟩
          rw [e3, e4, q1, q2, if_neg z_10, if_neg z_10, if_neg e, if_neg e]; exact hr n (by omega)
        · refine Or.inr ⟨v, g, hy, by omega, fun n hn => ?_⟩
          obtain ⟨n, rfl⟩ : ∃ n', n = n' + 1 := ⟨n - 1, by omega⟩
          rw [e3, e4, q1, q2, if_neg z_10, if_neg z_10, if_neg e, if_neg e]; exact hr n (by omega)
    · have q1 : q = 0 := by rcases pc with x | x; exact absurd x.2 hh; exact x.1
      have q2 : q' = 0 := by rcases pm with x | x; exact absurd x.2 hh; exact x.1
      obtain ⟨M', N', F', V', S', hr⟩ := ih (l + 1) f M1 N1 hC1 hM1 hw1' hw2' (by omega) (by omega)
      refine ⟨M', N', F1.tr F', V1.tr V', S', ?_⟩
      rcases hr with ⟨g, hg, hr⟩ | ⟨v, g, hy, hg, hr⟩
      · refine Or.inl ⟨g, by omega, fun n hn => ?_⟩
        obtain ⟨n, rfl⟩ : ∃ n', n = n' + 1 := ⟨n - 1, by omega⟩
        rw [e3, e4, q1, q2, if_pos rfl, if_pos rfl]; exact hr n (by omega)
      · refine Or.inr ⟨v, g, hy, by omega, fun n hn => ?_⟩
        obtain ⟨n, rfl⟩ : ∃ n', n = n' + 1 := ⟨n - 1, by omega⟩
        rw [e3, e4, q1, q2, if_pos rfl, if_pos rfl]; exact hr n (by omega)
/-- all DESKS -/
theorem g_early2 (hW : z_WB A nm P) (h0 : 0 < A 0 0) (h1b : 1 ≤ b) (hb : b ≤ 60) (y2 : Int32) : ∀ j d f M N, z_CB o A nm P M → z_MB A nm P N → (∀ c, c < A 0 0 → M.1 364 c = nI (wv c) ∧ wv c < 256) → (∀ c, c < A 0 0 → N.1 405 c = nI (wv c) ∧ wv c < 256) → d + j = A 0 3 →
    ∃ M' N', z_Fr (fun i => i < 319 ∨ 321 < i) M M' ∧ z_VK N N' ∧ z_NS N' ∧ ((∃ g, g ≤ f + 60 * j ∧ ∀ n, j < n → lp_Sp_early_30 0 (nI b) y2 n (nI f) (nI d) M = some (.inl (nI g, M')) ∧ lp_Mo_early_26 366 (nI b) y2 n (nI f) (nI d) N = some (.inl (nI g, N'))) ∨
      (∃ v g, y2 = nI g ∧ g ≤ f + 60 * j ∧ ∀ n, j < n → lp_Sp_early_30 0 (nI b) y2 n (nI f) (nI d) M = some (.inr (v, M')) ∧ lp_Mo_early_26 366 (nI b) y2 n (nI f) (nI d) N = some (.inr (v, N')))) := by
  have hd8 := hW.1.2.1
  intro j
  induction j with
  | zero =>
    intro d f M N hC hM hw1 hw2 h2
    refine ⟨M, N, z_Fr.rf, z_VK.rf, hM.2.2.2.1, Or.inl ⟨f, by omega, fun n hn => ?_⟩⟩
    obtain ⟨n, rfl⟩ : ∃ n', n = n' + 1 := ⟨n - 1, by omega⟩
    rw [lp_Sp_early_30, lp_Mo_early_26, hC.2.1, hC.2.2.1.2.2.2.1, if_neg (nI_nlt (by omega) (by omega)), m_desks hW.1 hM.1]
    simp only [Option.bind_some]
    rw [if_neg (nI_nlt (by omega) (by omega))]
    exact ⟨trivial, rfl⟩
  | succ j ih =>
    intro d f M N hC hM hw1 hw2 h2
    have hd : d < A 0 3 := by omega
    have hp := (hW.2.1 d hd).1
    obtain ⟨M1, N1, F1, V1, S1, hr1⟩ := g_early1 (d := d) (b := b) (wv := wv) hW h0 hd hb y2 (min b (P.1 d)) 1 f M N hC hM hw1 hw2 (by decide) (by omega)
    have hC1 : z_CB o A nm P M1 := hC.fr hW F1
    have hM1 : z_MB A nm P N1 := hM.vk V1 S1
    have hw1' : ∀ c, c < A 0 0 → M1.1 364 c = nI (wv c) ∧ wv c < 256 := fun c hc => by rw [F1.1 364 (by omega)]; exact hw1 c hc
    have hw2' : ∀ c, c < A 0 0 → N1.1 405 c = nI (wv c) ∧ wv c < 256 := fun c hc => by rw [V1.1.1 405 (by omega)]; exact hw2 c hc
    have e3 : ∀ n, lp_Sp_early_30 0 (nI b) y2 (n + 1) (nI f) (nI d) M = jsb (lp_Sp_early_63 0 (nI b) y2 (nI d) (nI (min b (P.1 d))) jfuel (nI f) (nI 1) M) Sum.inr fun q11 => lp_Sp_early_30 0 (nI b) y2 n q11.1 (nI (d + 1)) q11.2 := fun n => by
      rw [lp_Sp_early_30, hC.2.1, hC.2.2.1.2.2.2.1, if_pos (nI_lt hd (by omega)), jo_13 hC.1, c_size hW hC hd]
      simp only [Option.bind_some]
      rw [z_jmin (by omega) (by omega), nI_1]; rfl
    have e4 : ∀ n, lp_Mo_early_26 366 (nI b) y2 (n + 1) (nI f) (nI d) N = jsb (lp_Mo_early_38 366 (nI b) y2 (nI d) jfuel (nI f) (nI 1) N) Sum.inr fun q11 => lp_Mo_early_26 366 (nI b) y2 n q11.1 (nI (d + 1)) q11.2 := fun n => by
      rw [lp_Mo_early_26, m_desks hW.1 hM.1]
      simp only [Option.bind_some]
      rw [if_pos (nI_lt hd (by omega)), nI_1]; rfl
    rcases hr1 with ⟨g1, hg1, hr1⟩ | ⟨v, g1, hy1, hg1, hr1⟩
    · have h3 := hr1 jfuel (by rw [z_jf]; omega)
      obtain ⟨M', N', F', V', S', hr⟩ := ih (d + 1) g1 M1 N1 hC1 hM1 hw1' hw2' (by omega)
      refine ⟨M', N', F1.tr F', V1.tr V', S', ?_⟩
      rcases hr with ⟨g, hg, hr⟩ | ⟨v, g, hy, hg, hr⟩
      · refine Or.inl ⟨g, by omega, fun n hn => ?_⟩
        obtain ⟨n, rfl⟩ : ∃ n', n = n' + 1 := ⟨n - 1, by omega⟩
        rw [e3, e4, h3.1, h3.2]; exact hr n (by omega)
      · refine Or.inr ⟨v, g, hy, by omega, fun n hn => ?_⟩
        obtain ⟨n, rfl⟩ : ∃ n', n = n' + 1 := ⟨n - 1, by omega⟩
        rw [e3, e4, h3.1, h3.2]; exact hr n (by omega)
    · have h3 := hr1 jfuel (by rw [z_jf]; omega)
      refine ⟨M1, N1, F1, V1, S1, Or.inr ⟨v, g1, hy1, by omega, fun n hn => ?_⟩⟩
      obtain ⟨n, rfl⟩ : ∃ n', n = n' + 1 := ⟨n - 1, by omega⟩
      rw [e3, e4, h3.1, h3.2]; exact ⟨rfl, rfl⟩
theorem z_isG (x : Int32) (b c : Int64) : f_Mo_isIn x.toInt64 b c = some (if b.toInt ≤ x.toInt ∧ x.toInt ≤ c.toInt then 1 else 0) := by
  unfold f_Mo_isIn
  have e1 : x.toInt64 < b ↔ x.toInt < b.toInt := by rw [Int64.lt_iff_toInt_lt, Int32.toInt_toInt64]
  have e2 : c < x.toInt64 ↔ c.toInt < x.toInt := by rw [Int64.lt_iff_toInt_lt, Int32.toInt_toInt64]
  by_cases h : x.toInt64 < b
  · rw [if_pos h, if_neg (fun q => by have := e1.mp h; omega)]
  · rw [if_neg h]
    by_cases h2 : c < x.toInt64
    · rw [if_pos h2, if_neg (fun q => by have := e2.mp h2; omega)]
    · rw [if_neg h2, if_pos ⟨Int.not_lt.mp (fun q => h (e1.mpr q)), Int.not_lt.mp (fun q => h2 (e2.mpr q))⟩]
theorem z_nIof {x : Int32} (h : 0 ≤ x.toInt) : ∃ j : Nat, j < 2 ^ 31 ∧ x = nI j ∧ x.toInt = j := by
  obtain ⟨j, hj, rfl⟩ := nI_of (x := x) (by rw [Int32.lt_iff_toInt_lt]; show ¬ x.toInt < 0; omega)
  exact ⟨j, hj, rfl, nI_toInt hj⟩
theorem g_early {wt : Nat} (hW : z_WB A nm P) (h : z_CB o A nm P M) (k : z_MB A nm P N) (hwt : wt ≤ 1) (hw0 : A 0 0 = 0 → wt = 0) (h11 : M.1 0 11 = nI wt) (k65 : N.1 366 65 = nI wt) (hw1 : wt = 1 → ∀ c, c < A 0 0 → M.1 364 c = nI (wv c) ∧ wv c < 256) (hw2 : wt = 1 → ∀ c, c < A 0 0 → N.1 405 c = nI (wv c) ∧ wv c < 256) (x y : Int32) :
    ∃ v M' N', f_Sp_early 0 x y M = some (v, M') ∧ f_Mo_early 366 x y N = some (v, N') ∧ z_Fr (fun i => i < 319 ∨ 321 < i) M M' ∧ z_VK N N' ∧ z_NS N' := by
  have hS := k.2.2.2.1
  have hd8 := hW.1.2.1
  unfold f_Sp_early f_Mo_early
  rw [h11, k65]
  by_cases e : wt = 0
  · rw [e]; exact ⟨-1, M, N, rfl, rfl, z_Fr.rf, z_VK.rf, hS⟩
  · have e1 : wt = 1 := by omega
    have h00 : 0 < A 0 0 := Nat.pos_of_ne_zero (fun q => e (hw0 q))
    rw [e1, if_neg (show ¬ nI 1 = 0 by decide), if_neg (show ¬ nI 1 = 0 by decide), z_isG]
    simp only [Option.bind_some]
    have a1 : x < 1 ↔ x.toInt < 1 := Int32.lt_iff_toInt_lt
    have a2 : 60 < x ↔ 60 < x.toInt := Int32.lt_iff_toInt_lt
    by_cases c1 : x < 1
    · rw [if_pos c1, if_neg (show ¬ ((1 : Int64).toInt ≤ x.toInt ∧ x.toInt ≤ (60 : Int64).toInt) from fun q => by have := a1.mp c1; have q1 : (1 : Int) ≤ x.toInt := q.1; omega)]
      exact ⟨-1, M, N, rfl, rfl, z_Fr.rf, z_VK.rf, hS⟩
    rw [if_neg c1]
    by_cases c2 : 60 < x
    · rw [if_pos c2, if_neg (show ¬ ((1 : Int64).toInt ≤ x.toInt ∧ x.toInt ≤ (60 : Int64).toInt) from fun q => by have := a2.mp c2; have q1 : x.toInt ≤ (60 : Int) := q.2; omega)]
      exact ⟨-1, M, N, rfl, rfl, z_Fr.rf, z_VK.rf, hS⟩
    have d1 : 1 ≤ x.toInt := Int.not_lt.mp (fun q => c1 (a1.mpr q))
    have d2 : x.toInt ≤ 60 := Int.not_lt.mp (fun q => c2 (a2.mpr q))
    rw [if_neg c2, if_pos (show ((1 : Int64).toInt ≤ x.toInt ∧ x.toInt ≤ (60 : Int64).toInt) from ⟨d1, d2⟩)]
    obtain ⟨b, hb, rfl, hbx⟩ := z_nIof (x := x) (by omega)
    obtain ⟨M', N', F, V, S, hr⟩ := g_early2 (b := b) (wv := wv) hW h00 (by omega) (by omega) y (A 0 3) 0 0 M N h k (hw1 e1) (hw2 e1) (by omega)
    rw [if_neg (show ¬ (1 : Int32) = 0 by decide)]
    rcases hr with ⟨g, hg, hr⟩ | ⟨v, g, hy, hg, hr⟩
    · have h3 := hr jfuel (by rw [z_jf]; omega)
      rw [nI_0] at h3
      rw [h3.1, h3.2]
      unfold jsb
      simp only [Option.bind_some]
      by_cases c3 : y < -1
      · have c4 : ¬ y = -1 := fun q => by rw [q] at c3; exact absurd c3 (by decide)
        rw [if_pos c3, if_neg c4]
        exact ⟨-1, M, N', rfl, rfl, z_Fr.rf, V, S⟩
      · rw [if_neg c3]
        by_cases c4 : y = -1
        · rw [if_pos c4, if_pos c4]; exact ⟨_, M', N', rfl, rfl, F, V, S⟩
        · rw [if_neg c4, if_neg c4]; exact ⟨_, M', N', rfl, rfl, F, V, S⟩
    · have h3 := hr jfuel (by rw [z_jf]; omega)
      rw [nI_0] at h3
      rw [h3.1, h3.2]
      unfold jsb
      simp only [Option.bind_some]
      have c3 : ¬ y < -1 := by
        rw [hy, Int32.lt_iff_toInt_lt, nI_toInt (by omega)]
        show ¬ _ < (-1 : Int)
        omega
      rw [if_neg c3]
      exact ⟨v, M', N', rfl, rfl, F, V, S⟩
end
