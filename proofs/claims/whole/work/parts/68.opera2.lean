/-! ===== pure: opera, both, whole ===== -/
theorem jop_n {R : Nat} (hR : R = 7 ∨ R = 57) : jop (jopn R) = R := by rcases hR with rfl | rfl <;> decide
theorem z_QB.WB {R : Nat} {A : ZA} {nm : Nat → Nat → Nat} {P : ZP} {M N : SM} (hQ : z_QB R A nm P M N) : z_WB A nm P := by
  have b := hQ.2.2.1.b rfl
  have w := hQ.2.2.1.w rfl
  exact ⟨w.1, hQ.2.2.2.2.2.2.2.2, fun _ => w.2, fun e => by omega, hQ.2.2.2.2.2.1⟩
section
variable {T : Nat → Nat} {n R o hn : Nat} {A : ZA} {nm : Nat → Nat → Nat} {P : ZP} {G : Nat → ZP} {M N M1 N1 M' N' : SM}
theorem jsb_eq {E S U : Type} {o o' : Option (E ⊕ S)} {w : S → U} {g : E → Option U} (h : o = o') : jsb o w g = jsb o' w g := by rw [h]
/-- all reading, both -/
theorem g_readAll (hR : R = 7 ∨ R = 57) (hw : z_wt n T) (h : z_BT T n 0 M N) (hK : z_KW N) (h4 : z_m0 N) :
    ∃ v M' N', f_Or_read 107 R M = some (v, M') ∧ z_mr N = (if ((sI (sI N' 366 7 (N'.1 366 5)) 366 8 ((sI N' 366 7 (N'.1 366 5)).1 366 6)).1 366 5) = 0 then ((f_Mo_stands 366 (sI (sI N' 366 7 (N'.1 366 5)) 366 8 ((sI N' 366 7 (N'.1 366 5)).1 366 6))).bind fun q21 => some (q21.1 366 42, q21)) else (some ((-1), sI (sI N' 366 7 (N'.1 366 5)) 366 8 ((sI N' 366 7 (N'.1 366 5)).1 366 6)))) ∧
      z_Fr (fun i => i ≠ 3 ∧ i ≠ 4 ∧ i ≠ 5 ∧ i ≠ 6 ∧ i ≠ 107 ∧ (i < R ∨ R + 49 < i)) M M' ∧ z_YO N N' ∧
      ((v = 1 ∧ z_SF M M' ∧ (∃ t', 1 ≤ t' ∧ t' ≤ 70 ∧ M'.1 R 0 = nI t' ∧ N'.1 366 42 = nI t') ∧ N'.1 366 5 = 0 ∧ N'.1 366 6 = -1 ∧ ∃ A' nm' P', z_QB R A' nm' P' M' N') ∨ (v = 0 ∧ z_FF M' N')) := by
  have e107 : (sI M 107 2 (jopn R)).1 107 2 = jopn R := z_sIs _ _ _ _
  obtain ⟨M1, ec, f1, c0⟩ := c_clear (M := sI M 107 2 (jopn R)) hR
  have eR : f_Or_read 107 R M = jsb (lp_Or_read_14 107 jfuel 0 M1) id z_rd := by
    unfold f_Or_read
    rw [e107, jop_n hR, ec, jp_107_0]
    rfl
  have hj1 : jop (M1.1 107 2) = R := by rw [f1.1 107 (by omega), e107]; exact jop_n hR
  have F1 : z_Fr (fun i => i ≠ 3 ∧ i ≠ 4 ∧ i ≠ 5 ∧ i ≠ 6 ∧ i ≠ 107 ∧ (i < R ∨ R + 49 < i)) M M1 :=
    ⟨fun i q => by rw [f1.1 i (by omega), z_sIa _ _ _ _ q.2.2.2.2.1], f1.2⟩
  have S1 : z_SF M M1 := ⟨by rw [f1.1 3 (by omega), z_sIa _ _ _ _ (by decide)], by rw [f1.1 3 (by omega), z_sIa _ _ _ _ (by decide)]⟩
  have k4 : ∀ i, i < 7 → M1.1 i = M.1 i := fun i hi => by rw [f1.1 i (by omega), z_sIa _ _ _ _ (by omega)]
  have B1 : z_BT T n 0 M1 N := h.fr (k4 1 (by decide)) (k4 2 (by decide)) (k4 3 (by decide)) (k4 4 (by decide)) (fun _ _ => rfl) rfl
  obtain ⟨w, M2, N2, e1, e2, C, Y, h3⟩ := g_river hR hw B1 hK hj1 c0 h4
  have er : z_mr N = (lp_Mo_opera_104 366 jfuel (sI N2 366 42 1)).bind fun q19 => if ((sI (sI q19 366 7 (q19.1 366 5)) 366 8 ((sI q19 366 7 (q19.1 366 5)).1 366 6)).1 366 5) = 0 then ((f_Mo_stands 366 (sI (sI q19 366 7 (q19.1 366 5)) 366 8 ((sI q19 366 7 (q19.1 366 5)).1 366 6))).bind fun q21 => some (q21.1 366 42, q21)) else (some ((-1), sI (sI q19 366 7 (q19.1 366 5)) 366 8 ((sI q19 366 7 (q19.1 366 5)).1 366 6))) := by
    unfold z_mr
    rw [← Option.bind_assoc, ← Option.bind_assoc]
    rw [← Option.bind_assoc] at e2
    rw [e2]; rfl
  have lc : lp_Or_read_14 107 jfuel 0 M1 = (f_Or_takeRiver 107 M1).bind fun q13 => if q13.1 = 0 then (some (.inr (0, q13.2))) else ((f_Re_takeSign 3 59 q13.2).bind fun q18 => if q18.1 = 0 then (some (.inr (0, q18.2))) else (lp_Or_read_14 107 1999 (0 + 1) (sI q18.2 (jop (q18.2.1 107 2)) 0 ((q18.2.1 (jop (q18.2.1 107 2)) 0) + 1)))) := by
    rw [show jfuel = 1999 + 1 from rfl, lp_Or_read_14, if_pos (by decide), if_neg (by decide), if_pos rfl, jp_107_0, Option.bind_assoc]
    rfl
  have YO : z_YO N (sI N2 366 42 1) := Y.yo.tr z_YO.c
  rw [eR, er]
  rcases h3 with ⟨w1, ⟨b', B2⟩, S2, c, c1, c2, hQ⟩ | ⟨w0, F⟩
  · have hQ := hQ (fun _ _ => 0) (fun _ => 0, fun _ _ => 0)
    have cR : M2.1 R 0 = 0 := (C.2 (by omega)).trans c0.1
    have el : lp_Or_read_14 107 jfuel 0 M1 = lp_Or_read_14 107 1999 (nI 1) (sI M2 R 0 (nI 1)) := by
      rw [lc]
      cases hr : f_Or_takeRiver 107 M1 with
      | none => rw [hr] at e1; cases e1
      | some q =>
        rw [hr] at e1
        simp only [Option.bind_some] at e1 ⊢
        by_cases v0 : q.1 = 0
        · rw [if_pos v0] at e1
          have := congrArg Prod.fst (Option.some.inj e1)
          rw [w1] at this
          exact absurd (show (0 : Int32) = 1 from this) (by decide)
        · rw [if_neg v0] at e1 ⊢
          cases hts : f_Re_takeSign 3 59 q.2 with
          | none => rw [hts] at e1; cases e1
          | some q11 =>
            rw [hts] at e1
            simp only [Option.bind_some] at e1 ⊢
            have e11 : q11 = (w, M2) := by have := Option.some.inj e1; rw [← this]
            subst e11
            rw [w1, if_neg z_10]
            show lp_Or_read_14 107 1999 (0 + 1) (sI M2 (jop (M2.1 107 2)) 0 ((M2.1 (jop (M2.1 107 2)) 0) + 1)) = _
            rw [hQ.2.1, cR]
            rfl
    obtain ⟨v, M', N', r1, r2, r3, r4, r5⟩ := g_read hw 69 1 b' (sI M2 R 0 (nI 1)) (sI N2 366 42 (nI 1)) (z_A0 c) (fun _ _ => 0) (fun _ => 0, fun _ _ => 0) 1999 jfuel (by decide) (by decide) (B2.cnt (by omega)) ((hK.yo Y.yo).yo z_YO.c) hQ.cnt (z_sIs _ _ _ _) (z_sIs _ _ _ _) (by decide) (by decide)
    refine ⟨v, M', N', by rw [jsb_eq el]; exact r1, ?_, ?_, YO.tr r4, ?_⟩
    · rw [show lp_Mo_opera_104 366 jfuel (sI N2 366 42 1) = some N' from r2]; rfl
    · exact (F1.tr ((C.1.sI (by omega)).wk (fun i q => ⟨q.1, q.2.1, q.2.2.1, q.2.2.2.1, q.2.2.2.2.2⟩))).tr (r3.wk (fun i q => ⟨q.1, q.2.1, q.2.2.1, q.2.2.2.1, q.2.2.2.2.2⟩))
    · rcases r5 with ⟨u1, u2, u3, u4, u5, A2, nm2, P2, u6, u7⟩ | r5
      · exact Or.inl ⟨u1, (S1.tr (S2.s (by omega))).tr u2, u3, u4, u5, A2, nm2, P2, u7⟩
      · exact Or.inr r5
  · have FB : (sI N2 366 42 1).1 366 5 ≠ 0 := by rw [z_sIk _ _ _ _ (by decide)]; exact F.bad
    refine ⟨0, M2, sI N2 366 42 1, ?_, ?_, F1.tr (C.1.wk (fun i q => ⟨q.1, q.2.1, q.2.2.1, q.2.2.2.1, q.2.2.2.2.2⟩)), YO, Or.inr ⟨rfl, F.to z_SF.rf (z_sIk _ _ _ _ (by decide)) (z_sIk _ _ _ _ (by decide))⟩⟩
    · have el : lp_Or_read_14 107 jfuel 0 M1 = some (.inr (0, M2)) := by
        rw [lc]
        cases hr : f_Or_takeRiver 107 M1 with
        | none => rw [hr] at e1; cases e1
        | some q =>
          rw [hr] at e1
          simp only [Option.bind_some] at e1 ⊢
          by_cases v0 : q.1 = 0
          · rw [if_pos v0] at e1 ⊢
            have e2 : q.2 = M2 := congrArg Prod.snd (Option.some.inj e1)
            rw [e2]
          · rw [if_neg v0] at e1 ⊢
            cases hts : f_Re_takeSign 3 59 q.2 with
            | none => rw [hts] at e1; cases e1
            | some q11 =>
              rw [hts] at e1
              simp only [Option.bind_some] at e1 ⊢
              have e11 : q11 = (w, M2) := by have := Option.some.inj e1; rw [← this]
              subst e11
              rw [w0, if_pos rfl]
      rw [jsb_eq el]; rfl
    · rw [show jfuel = 1999 + 1 from rfl, lp_Mo_opera_104, if_neg FB]; rfl
/-- the reference begins -/
theorem m_starts {N0 : SM} (k : z_tm n T N) (e : f_Mo_starts 366 N = some N0) : z_RF T n 0 0 N0 ∧ z_YQ N N0 ∧ N0.1 366 1 = 0 ∧ (∀ i, i ≠ 366 → N0.1 i = N.1 i) := by
  unfold f_Mo_starts at e
  have e := (Option.some.inj e).symm
  subst e
  have g : ∀ i, i ≠ 366 → (sI (sI (sI (sI (sI (sI N 366 3 (N.1 366 1)) 366 1 0) 366 2 0) 366 4 (-1)) 366 5 0) 366 6 (-1)).1 i = N.1 i := fun i hi => by
    rw [z_sIa _ _ _ _ hi, z_sIa _ _ _ _ hi, z_sIa _ _ _ _ hi, z_sIa _ _ _ _ hi, z_sIa _ _ _ _ hi, z_sIa _ _ _ _ hi]
  refine ⟨⟨?_, Nat.le_refl _, Nat.zero_le _, ?_, Or.inr ⟨fun q => absurd q.1 (by decide), Or.inl ?_⟩, ?_, z_sIs _ _ _ _, fun j hj => ?_⟩, ?_, ?_, g⟩
  · rw [z_sIk _ _ _ _ (by decide), z_sIk _ _ _ _ (by decide), z_sIk _ _ _ _ (by decide), z_sIs]; rfl
  · rw [z_sIk _ _ _ _ (by decide), z_sIk _ _ _ _ (by decide), z_sIk _ _ _ _ (by decide), z_sIk _ _ _ _ (by decide), z_sIk _ _ _ _ (by decide), z_sIs]; exact k.1
  · rw [z_sIk _ _ _ _ (by decide), z_sIk _ _ _ _ (by decide), z_sIs]
  · rw [z_sIk _ _ _ _ (by decide), z_sIs]
  · rw [g 367 (by decide)]; exact k.2 j hj
  · exact (((((z_YQ.rf.s (by decide)).s (by decide)).s (by decide)).s (by decide)).s (by decide)).s (by decide)
  · rw [z_sIk _ _ _ _ (by decide), z_sIk _ _ _ _ (by decide), z_sIk _ _ _ _ (by decide), z_sIk _ _ _ _ (by decide), z_sIs]
theorem z_mb0 : z_mb T n 0 := ⟨Nat.zero_le _, fun h => absurd h (by decide)⟩
/-- opera -/
theorem g_opera (hK : z_K o A nm P G hn M N) (h9 : jop (M.1 0 9) = R) (hR : R = 7 ∨ R = 57) (hoR : o ≠ R) (hw : z_wt n T) (h : z_tc n T M) (k : z_tm n T N) (hKW : z_KW N) :
    ∃ v M' N', f_Sp_opera 0 M = some (v, M') ∧ f_Mo_opera 366 N = some (v, N') ∧ z_tc 0 T M' ∧ z_tm 0 T N' ∧
      (∀ i, i ≠ 0 → i ≠ 1 → (i < 3 ∨ 321 < i) → M'.1 i = M.1 i) ∧ M'.2 = M.2 ∧ (∀ k, k ≠ 8 → k ≠ 9 → k ≠ 11 → M'.1 0 k = M.1 0 k) ∧
      (∀ i, i ≠ 366 → (i < 385 ∨ 404 < i) → N'.1 i = N.1 i) ∧ (∀ i k, i ≠ 386 → N'.2 i k = N.2 i k) ∧ (∀ k, 65 < k → N'.1 366 k = N.1 366 k) ∧
      M'.1 3 5 = N'.1 366 7 ∧ M'.1 3 6 = N'.1 366 8 ∧
      ((z_K o A nm P G hn M' N' ∧ jop (M'.1 0 9) = R ∧ M'.1 0 11 = M.1 0 11 ∧ N'.1 366 65 = N.1 366 65) ∨
       (∃ A' nm' P', z_K R A' nm' P' (fun _ => P') 0 M' N' ∧ jop (M'.1 0 9) = o ∧ M'.1 0 11 = nI 0 ∧ N'.1 366 65 = nI 0)) := by
  obtain ⟨hW, hC, hM, hG0, hGW, hHC, hHR⟩ := hK
  have ho := hC.1
  obtain ⟨N1, eN, ⟨N0, e0, y0, f0, g0⟩, h0⟩ := m_init (N := N)
  obtain ⟨rf0, yq0, t0, s0⟩ := m_starts (T := T) k e0
  have rf1 : z_RF T n 0 0 N1 := by
    obtain ⟨r1, r2, r3, r4, r5, r6, r7, r8⟩ := rf0
    refine ⟨(f0 2).trans r1, r2, r3, (f0 3).trans r4, ?_, (f0 5).trans r6, (f0 6).trans r7, fun j hj => by rw [g0 367 (by decide)]; exact r8 j hj⟩
    unfold z_ed
    rw [f0 4]; exact r5
  have yq1 : z_YQ N N1 := yq0.tr y0.yo.yq
  have K1 : z_KW N1 := hKW.fr (fun i i1 i2 i3 => yq1.row (by omega) (by omega))
  obtain ⟨Mb, eb, rd, re, rb5, rb6⟩ := c_rbegin hw h
  have B0 : z_BT T n 0 Mb N1 := ⟨z_mb0, rd, h.re re, 0, rf1⟩
  obtain ⟨v, M2, N2, e1, e2, F, YO, h3⟩ := g_readAll hR hw B0 K1 h0
  have FM : z_Fr (fun i => i ≠ 3 ∧ i ≠ 4 ∧ i ≠ 5 ∧ i ≠ 6 ∧ i ≠ 107 ∧ (i < R ∨ R + 49 < i)) M M2 := (re.wk (fun i q => ⟨q.1, q.2.1⟩)).tr F
  have YQ : z_YQ N N2 := yq1.tr YO.yq
  have b8 : Mb.1 0 9 = M.1 0 9 := by rw [re.1 0 (by decide)]
  have eO : f_Sp_opera 0 M = if v = 0 then (some ((-1), sI M2 1 1 0)) else ((f_Ac_forget 108 (sI (sI (sI (sI M2 1 1 0) 0 8 (jopn (jop ((sI M2 1 1 0).1 0 9)))) 0 9 (jopn (jop ((sI M2 1 1 0).1 0 8)))) 0 11 0)).bind fun q4 => (f_Ru_playAll 132 (jop (q4.1 0 8)) 319 q4).bind fun q5 => some (q5.1 (jop (q5.1 0 8)) 0, q5)) := by
    unfold f_Sp_opera
    rw [jp_0_1, eb]
    simp only [Option.bind_some]
    rw [b8, h9, jp_0_3, e1, jp_0_0, jp_0_5, jp_0_6, jp_0_7]
    rfl
  rw [eO, eN, e2]
  have n1 : N2.1 366 1 = 0 := by
    have := YO.1 366 1 (by unfold z_pk; omega) (by omega)
    rw [this, f0 1]; exact t0
  have m98 : M2.1 0 8 = M.1 0 8 ∧ M2.1 0 9 = M.1 0 9 := by rw [FM.1 0 (by omega)]; exact ⟨rfl, rfl⟩
  generalize hN3 : sI (sI N2 366 7 (N2.1 366 5)) 366 8 ((sI N2 366 7 (N2.1 366 5)).1 366 6) = N3
  have N3k : ∀ j, j ≠ 7 → j ≠ 8 → N3.1 366 j = N2.1 366 j := fun j a b => by rw [← hN3, z_sIk _ _ _ _ b, z_sIk _ _ _ _ a]
  have N3r : ∀ i, i ≠ 366 → N3.1 i = N2.1 i := fun i a => by rw [← hN3, z_sIa _ _ _ _ a, z_sIa _ _ _ _ a]
  have N37 : N3.1 366 7 = N2.1 366 5 := by rw [← hN3, z_sIk _ _ _ _ (by decide), z_sIs]
  have N38 : N3.1 366 8 = N2.1 366 6 := by rw [← hN3, z_sIs, z_sIk _ _ _ _ (by decide)]
  have N32 : N3.2 = N2.2 := by rw [← hN3]; rfl
  have YQ3 : z_YQ N N3 := by rw [← hN3]; exact (YQ.s (by decide)).s (by decide)
  have tm3 : z_tm 0 T N3 := ⟨(N3k 1 (by decide) (by decide)).trans n1, fun j hj => by omega⟩
  rw [N3k 5 (by decide) (by decide)]
  rcases h3 with ⟨v1, S, ⟨t, t1, t2, c1, c2⟩, n5, n6, A', nm', P', hQ⟩ | ⟨v0, FF⟩
  · rw [v1, if_neg z_10, if_pos n5]
    have hQ3 : z_QB R A' nm' P' M2 N3 := by
      obtain ⟨q1, q2, q3, q4, q5, q6, q7, q8, q9⟩ := hQ
      exact ⟨q1, q2, q3.fr (fun _ _ => rfl) (fun i a b c => N3r i (by omega)) (N3k 30 (by decide) (by decide)), q4, fun i w hi hw => by rw [N32]; exact q5 i w hi hw, q6, q7, fun d hd => by rw [N3r 391 (by decide)]; exact q8 d hd, q9⟩
    have hW' := hQ.WB
    have h00 : 0 < A' 0 0 := by have := hQ.2.2.1.b rfl; omega
    have NS : z_NS N3 := by
      have := hM.2.2.2.1
      exact ⟨(YQ3.1 366 47 (by unfold z_pk; omega) (by omega)).trans this.1, (YQ3.1 366 48 (by unfold z_pk; omega) (by omega)).trans this.2.1, (YQ3.1 366 50 (by unfold z_pk; omega) (by omega)).trans this.2.2⟩
    obtain ⟨N4, es, s1, s2, s3, s4, s5, s6⟩ := m_stands hQ3 NS hW'
    rw [es]
    simp only [Option.bind_some]
    -- the class
    generalize hM3 : sI (sI (sI (sI M2 1 1 0) 0 8 (jopn (jop ((sI M2 1 1 0).1 0 9)))) 0 9 (jopn (jop ((sI M2 1 1 0).1 0 8)))) 0 11 0 = M3
    have M3r : ∀ i, i ≠ 0 → i ≠ 1 → M3.1 i = M2.1 i := fun i a b => by rw [← hM3, z_sIa _ _ _ _ a, z_sIa _ _ _ _ a, z_sIa _ _ _ _ a, z_sIa _ _ _ _ b]
    have M3k : ∀ j, j ≠ 8 → j ≠ 9 → j ≠ 11 → M3.1 0 j = M2.1 0 j := fun j a b c => by rw [← hM3, z_sIk _ _ _ _ c, z_sIk _ _ _ _ b, z_sIk _ _ _ _ a, z_sIa _ _ _ _ (by decide)]
    have M38 : M3.1 0 8 = jopn R := by rw [← hM3, z_sIk _ _ _ _ (by decide), z_sIk _ _ _ _ (by decide), z_sIs, z_sIa _ _ _ _ (by decide), m98.2, h9]
    have M39 : M3.1 0 9 = jopn o := by rw [← hM3, z_sIk _ _ _ _ (by decide), z_sIs, z_sIa _ _ _ _ (by decide), m98.1, hC.2.1]
    have M311 : M3.1 0 11 = nI 0 := by rw [← hM3, z_sIs]; rfl
    have M31 : M3.1 1 1 = 0 := by rw [← hM3, z_sIa _ _ _ _ (by decide), z_sIa _ _ _ _ (by decide), z_sIa _ _ _ _ (by decide), z_sIs]
    have M32 : M3.2 = M2.2 := by rw [← hM3]; rfl
    rw [show f_Ac_forget 108 M3 = some (sI (sI M3 108 3 0) 108 4 0) from rfl]
    simp only [Option.bind_some]
    generalize hM4 : sI (sI M3 108 3 0) 108 4 0 = M4
    have M4r : ∀ i, i ≠ 108 → M4.1 i = M3.1 i := fun i a => by rw [← hM4, z_sIa _ _ _ _ a, z_sIa _ _ _ _ a]
    have M43 : M4.1 108 3 = nI 0 := by rw [← hM4, z_sIk _ _ _ _ (by decide), z_sIs]; rfl
    have M44 : M4.1 108 4 = nI 0 := by rw [← hM4, z_sIs]; rfl
    have M48 : jop (M4.1 0 8) = R := by rw [M4r 0 (by decide), M38]; exact jop_n hR
    have Mr : ∀ i, i ≠ 0 → i ≠ 1 → i ≠ 108 → M4.1 i = M2.1 i := fun i a b c => by rw [M4r i c, M3r i a b]
    have hO := hQ.2.2.1.oc rfl
    have hd8 := hQ.2.2.1.nA rfl
    have CH : z_CH R A' nm' P' M4 := by
      refine ⟨hR, M48, hO.fr (fun i a b => Mr i (by omega) (by omega) (by omega)), hQ.2.2.2.2.2.2.1.fr (hd8 0 (by decide)) (fun i a b => Mr i (by omega) (by omega) (by omega)), fun i w hi hw j hj => ?_⟩
      have := hd8 i hi
      rw [Mr _ (by omega) (by omega) (by omega)]; exact hQ.2.2.2.1 i w hi hw j hj
    rw [M48]
    obtain ⟨M5, ep, p1, p2⟩ := c_replay hW' h00 CH
    rw [ep]
    simp only [Option.bind_some]
    have M5R : M5.1 R 0 = nI t := by rw [p2.1 R (by omega), Mr R (by omega) (by omega) (by omega)]; exact c1
    have M50 : M5.1 0 = M3.1 0 := by rw [p2.1 0 (by omega), M4r 0 (by decide)]
    rw [p1.2.1, M5R]
    have n42 : N4.1 366 42 = nI t := by rw [s4 42 (by decide) (by decide) (by decide) (by decide), N3k 42 (by decide) (by decide)]; exact c2
    rw [n42]
    refine ⟨nI t, M5, N4, rfl, rfl, ⟨?_, fun j hj => by omega⟩, ⟨?_, fun j hj => by omega⟩, fun i a b c => ?_, ?_, fun j a b c => ?_, fun i a b => ?_, fun i j a => ?_, fun j a => ?_, ?_, ?_, Or.inr ⟨A', nm', P', ⟨hW', p1, s1, rfl, fun _ _ => hW'.2.1, ?_, ?_⟩, ?_, ?_, s6⟩⟩
    · rw [p2.1 1 (by omega), M4r 1 (by decide)]; exact M31
    · rw [s4 1 (by decide) (by decide) (by decide) (by decide), N3k 1 (by decide) (by decide)]; exact n1
    · rw [p2.1 i (by omega), Mr i a b (by omega), FM.1 i (by omega)]
    · rw [p2.2, ← hM4]
      show M3.2 = M.2
      rw [M32, FM.2]
    · rw [M50, M3k j a b c, FM.1 0 (by omega)]
    · rw [s2 i a (by omega), YQ3.row a (by omega)]
    · rw [s3 i j a, YQ3.2 i j (Or.inl a)]
    · rw [s4 j (by omega) (by omega) (by omega) (by omega), YQ3.1 366 j (by unfold z_pk; omega) (by omega)]
    · rw [p2.1 3 (by omega), Mr 3 (by decide) (by decide) (by decide), S.1, rb5, s4 7 (by decide) (by decide) (by decide) (by decide), N37, n5]; rfl
    · rw [p2.1 3 (by omega), Mr 3 (by decide) (by decide) (by decide), S.2, rb6, s4 8 (by decide) (by decide) (by decide) (by decide), N38, n6]
    · refine ⟨by decide, ?_, 0, by decide, ?_, fun j hj => by omega⟩
      · rw [p2.1 108 (by omega)]; exact M44
      · rw [p2.1 108 (by omega)]; exact M43
    · obtain ⟨u1, u2, nw, u3, u4, u5⟩ := hHR
      refine ⟨by decide, s5, nw, u3, ?_, fun j hj => by omega⟩
      rw [s4 64 (by decide) (by decide) (by decide) (by decide), YQ3.1 366 64 (by unfold z_pk; omega) (by omega)]; exact u4
    · rw [M50, M39]; exact jop_n ho
    · rw [M50]; exact M311
  · rw [v0, if_pos rfl, if_neg FF.bad]
    have f8 : ∀ j, (sI M2 1 1 0).1 0 j = M.1 0 j := fun j => by rw [z_sIa _ _ _ _ (by decide), FM.1 0 (by omega)]
    obtain ⟨f, p, cf, _, _, mf⟩ := FF
    refine ⟨-1, sI M2 1 1 0, N3, rfl, rfl, ⟨z_sIs _ _ _ _, fun j hj => by omega⟩, tm3, fun i a b c => ?_, FM.2, fun j _ _ _ => f8 j, fun i a b => YQ3.row a (by omega), fun i j a => YQ3.2 i j (Or.inl a), fun j a => YQ3.1 366 j (by unfold z_pk; omega) (by omega), ?_, ?_, Or.inl ⟨⟨hW, ?_, hM.yq hW YQ3, hG0, hGW, ?_, hHR.yq YQ3⟩, ?_, f8 11, YQ3.1 366 65 (by unfold z_pk; omega) (by omega)⟩⟩
    · rw [z_sIa _ _ _ _ b, FM.1 i (by omega)]
    · rw [z_sIa _ _ _ _ (by decide), N37, cf.1, mf.1]
    · rw [z_sIa _ _ _ _ (by decide), N38, cf.2, mf.2]
    · exact hC.kp hW (f8 8) (fun i a b => by rw [z_sIa _ _ _ _ (by omega), FM.1 i (by omega)]) (fun i a b => by rw [z_sIa _ _ _ _ (by omega), FM.1 i (by omega)])
    · exact hHC.fr (fun i a b => by rw [z_sIa _ _ _ _ (by omega), FM.1 i (by omega)])
    · rw [f8 9]; exact h9
end
