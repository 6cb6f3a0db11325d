/-! ===== pure: a fact, both ===== -/
section
variable {T : Nat → Nat} {n b a b' oo u o k : Nat} {A : ZA} {nm : Nat → Nat → Nat} {P : ZP} {W K Nk W0 : List Nat} {M N M' N' N1 : SM}
theorem t_A_sq (hw : z_wt n T) (hm : z_mb T n b) (h : z_RF T n b a N) (hM : y_M 0 o W K N) (ho : o ≤ 6) (hl : W.length < 1700) (s : z_sg T n b 91) :
    ∃ N1, y_X N N1 ∧ ((o < 6 ∧ (∀ f, t_A (f + 1) N = t_A f N1) ∧ z_RF T n (z_en T n b) (z_en T n b) N1 ∧ y_M 0 (o + 1) (25 :: W) K N1) ∨ (o = 6 ∧ (∀ f, t_A (f + 2) N = some N1) ∧ z_MF 4 (z_sk T n b) N1)) := by
  obtain ⟨⟨v, N2⟩, e1, v1, r1, x1⟩ := m_look hw hm.1 h
  have v1 : v = _ := v1
  have r1 : z_RF T n b (z_sk T n b) N2 := r1
  have x1 : z_LX N N2 := x1
  have v91 : v = 91 := v1.trans ((m_lkS hw hm.1 (c := 91) (by unfold z_al; omega) (by decide)).mpr s)
  obtain ⟨N3, e3, k3⟩ := m_opens (x := 25) (p := z_sk T n b) (hM.lx x1) r1.2.2.2.2.2.1 hl (by decide) ho
  have st : ∀ f, t_A (f + 1) N = t_A f (sI N3 366 2 ((N3.1 366 2) + 1)) := fun f => by
    rw [t_A1 h.2.2.2.2.2.1, e1]
    simp only [Option.bind_some]
    rw [if_pos v91, r1.1, show (25 : Int32) = nI 25 from rfl, e3]; rfl
  rcases k3 with ⟨o6, m3, y3⟩ | ⟨o6, rfl⟩
  · have r3 := r1.y y3
    refine ⟨_, (x1.yx.tr y3.yx).s (Or.inl rfl), Or.inl ⟨o6, st, ?_, m3.at⟩⟩
    rw [r3.1, nI_1]; exact z_RF.sg (c := 0) hm r3 s.1
  · have mf : z_MF 4 (z_sk T n b) (sI (sI (sI N2 366 5 (nI 4)) 366 6 (nI (z_sk T n b))) 366 2 (((sI (sI N2 366 5 (nI 4)) 366 6 (nI (z_sk T n b))).1 366 2) + 1)) := ⟨(z_sIk _ _ _ _ (by decide)).trans ((z_sIk _ _ _ _ (by decide)).trans (z_sIs _ _ _ _)), (z_sIk _ _ _ _ (by decide)).trans (z_sIs _ _ _ _)⟩
    refine ⟨_, (x1.f).yx.s (Or.inl rfl), Or.inr ⟨o6, fun f => ?_, mf⟩⟩
    rw [show f + 2 = (f + 1) + 1 from rfl, st]
    exact t_Ab (mf.bad (by decide) (by decide))
theorem t_A_not (hw : z_wt n T) (hm : z_mb T n b) (h : z_RF T n b a N) (hK : z_KW N) (hM : y_M 0 o W K N) (ho : o ≤ 6) (hl : W.length < 1700) (s : z_is T n b tw_not) :
    ∃ N1, y_X N N1 ∧ ((o < 6 ∧ (∀ f, t_A (f + 1) N = t_A f N1) ∧ z_RF T n (z_en T n b) (z_en T n b) N1 ∧ y_M 0 (o + 1) (12 :: W) K N1) ∨ (o = 6 ∧ (∀ f, t_A (f + 2) N = some N1) ∧ z_MF 4 (z_sk T n b) N1)) := by
  obtain ⟨⟨v, N2⟩, e1, v1, r1, x1⟩ := m_look hw hm.1 h
  have v1 : v = _ := v1
  have r1 : z_RF T n b (z_sk T n b) N2 := r1
  have x1 : z_LX N N2 := x1
  have v91 : ¬ v = 91 := fun e => by
    have := (m_lkS hw hm.1 (c := 91) (by unfold z_al; omega) (by decide)).mp (v1.symm.trans e)
    have := this.1; have := s.1; omega
  obtain ⟨⟨q, N3⟩, e3, q3, r3, x3⟩ := y_here (p := (74, tw_not)) (by decide) hw hm r1 (hK.lx x1)
  have q3 : q = _ := q3
  have r3 : z_RF T n b (z_sk T n b) N3 := r3
  have x3 : z_LX N2 N3 := x3
  have e3 : f_Mo_isHere 366 (jpf 366 74) N2 = some (q, N3) := e3
  have q1 : q = 1 := by rw [q3]; exact if_pos s
  have x13 := x1.tr x3
  obtain ⟨N4, e4, k4⟩ := m_opens (x := 12) (p := z_sk T n b) (hM.lx x13) r3.2.2.2.2.2.1 hl (by decide) ho
  have st : ∀ f, t_A (f + 1) N = (f_Mo_asks 366 (jpf 366 74) N4).bind fun q15 => t_A f q15 := fun f => by
    rw [t_A1 h.2.2.2.2.2.1, e1]
    simp only [Option.bind_some]
    rw [if_neg v91, e3]
    simp only [Option.bind_some]
    rw [q1, if_neg z_10, r3.1, zl_12, e4]; rfl
  rcases k4 with ⟨o6, m4, y4⟩ | ⟨o6, rfl⟩
  · obtain ⟨N5, e5, x5, k5⟩ := y_asks (p := (74, tw_not)) (by decide) hw hm (r3.y y4) ((hK.lx x13).yx y4.yx)
    have e5 : f_Mo_asks 366 (jpf 366 74) N4 = some N5 := e5
    rcases k5 with ⟨_, r5⟩ | ⟨c, _⟩
    · exact ⟨N5, (x13.yx.tr y4.yx).tr x5.yx, Or.inl ⟨o6, fun f => by rw [st, e5]; rfl, r5, m4.lx x5⟩⟩
    · exact absurd s c
  · have mf := z_MF.mk (N := N3) 4 (z_sk T n b)
    have bad := mf.bad (by decide) (by decide)
    refine ⟨_, (x13.f).yx, Or.inr ⟨o6, fun f => ?_, mf⟩⟩
    rw [show f + 2 = (f + 1) + 1 from rfl, st, b_asks bad]
    exact t_Ab bad
theorem t_A_fact (hw : z_wt n T) (hm : z_mb T n b) (h : z_RF T n b a N) (hK : z_KW N) (s : ¬ z_is T n b tw_not) (s2 : ¬ z_sg T n b 91) :
    ∃ N1, z_LX N N1 ∧ z_RF T n b (z_sk T n b) N1 ∧ ∀ f, t_A (f + 1) N = (f_Mo_qFact 366 N1).bind fun q8 => (f_Mo_qDropsNots 366 q8).bind fun q9 => t_PS f q9 := by
  obtain ⟨⟨v, N2⟩, e1, v1, r1, x1⟩ := m_look hw hm.1 h
  have v1 : v = _ := v1
  have r1 : z_RF T n b (z_sk T n b) N2 := r1
  have x1 : z_LX N N2 := x1
  have v91 : ¬ v = 91 := fun e => s2 ((m_lkS hw hm.1 (c := 91) (by unfold z_al; omega) (by decide)).mp (v1.symm.trans e))
  obtain ⟨⟨q, N3⟩, e3, q3, r3, x3⟩ := y_here (p := (74, tw_not)) (by decide) hw hm r1 (hK.lx x1)
  have q3 : q = _ := q3
  have r3 : z_RF T n b (z_sk T n b) N3 := r3
  have x3 : z_LX N2 N3 := x3
  have e3 : f_Mo_isHere 366 (jpf 366 74) N2 = some (q, N3) := e3
  have q0 : q = 0 := by rw [q3]; exact if_neg s
  refine ⟨N3, x1.tr x3, r3, fun f => ?_⟩
  rw [t_A1 h.2.2.2.2.2.1, e1]
  simp only [Option.bind_some]
  rw [if_neg v91, e3]
  simp only [Option.bind_some]
  rw [q0, if_pos rfl]
theorem t_bad.on {b1 : Nat} (hb : b ≤ n) (st : ∀ f, t_A (f + 1) N = t_A f N1) (lt : b < b1) (x : y_X N N1) (k : t_bad n b1 N1 M') : t_bad n b N M' := by
  obtain ⟨N2, ff, x2, fu⟩ := k
  refine ⟨N2, ff, x.tr x2, fun f h => ?_⟩
  obtain ⟨f', rfl⟩ : ∃ f', f = f' + 1 := ⟨f - 1, by omega⟩
  rw [st]; exact fu f' (by omega)
theorem t_bad.it (hb : b ≤ n) (st : ∀ f, t_A (f + 2) N = some N1) (x : y_X N N1) (ff : z_FF M' N1) : t_bad n b N M' := by
  refine ⟨N1, ff, x, fun f h => ?_⟩
  obtain ⟨f', rfl⟩ : ∃ f', f = f' + 2 := ⟨f - 2, by omega⟩
  exact st f'
theorem t_fact (hw : z_wt n T) (hW : z_WB A nm P) (h00 : 0 < A 0 0) (ho : o ≤ 6) (hS : o < 6 → t_CT T n oo A nm P (k + 1) (o + 1)) (hP : o < 6 → t_CF T n oo A nm P k (o + 1)) : t_CF T n oo A nm P (k + 2) o := by
  have hn := hw.1
  intro b u Nk W0 K M N hI hNk hT hV hLo hu
  have hI' := hI
  obtain ⟨hm, hD, hTc, hC, hU, ⟨a, hr⟩, hK, hy, hl⟩ := hI
  have hb := hm.1
  have h5 := hr.2.2.2.2.2.1
  have hen := z_en_s (T := T) hb
  have hsk := z_sk_s (T := T) hb
  have hL2 : Nk.length + W0.length + K.length ≤ b := by rw [List.length_append] at hl; exact hl
  show ∃ r, fb_Qu_fact (fg_Qu_test (k + 1)) 322 (nI o) M = some r ∧ _
  unfold fb_Qu_fact
  rw [jp_322_0, t_isNot hw hb hD]
  simp only [Option.bind_some]
  by_cases sn : z_is T n b tw_not
  · rw [z_b1 sn]
    have hlt := hen.2.2.1 (z_so_1 sn.1).1
    obtain ⟨N1, X1, k1⟩ := t_A_not hw hm hr hK hy ho (by rw [List.length_append]; omega) sn
    rw [c_mayOpen hD]
    rcases k1 with ⟨o6, st, r1, y1⟩ | ⟨o6, st, mf⟩
    · rw [if_pos (show nI o < 6 from nI_lt (b := 6) o6 (by decide))]
      simp only [Option.bind_some]
      rw [if_neg z_10, nI_1]
      obtain ⟨M1, e1, d1, re1, sf1⟩ := c_next hw hTc hb hD
      have hI1 : y_I T n (z_en T n b) oo A nm P u 0 (o + 1) ((12 :: Nk) ++ W0) K M1 N1 := hI'.to (w := 0) hW re1.yf hen.2.2.2 d1 (by rw [re1.1 322 (by omega)]; exact hU) X1 r1 y1 (by rw [List.length_append, List.length_cons]; omega)
      obtain ⟨⟨w2, M2⟩, e2, F2, h2⟩ := hP o6 (z_en T n b) u (12 :: Nk) W0 K M1 N1 hI1 (fun x hx => (List.mem_cons.mp hx).elim id (hNk x)) hT hV (by rw [List.length_cons]; omega) (by omega)
      have F2 : y_F u M1 M2 := F2
      have ng : (fg_Qu_test (k + 1)).2.2.2 322 (nI (o + 1)) M = if w2 = 0 then some (0, M2) else ((lp_Qu_negation_19 (fg_Qu_test k) 322 jfuel 0 M2).bind fun q9 => some (1, q9)) := by
        show fb_Qu_negation (fg_Qu_test k) 322 (nI (o + 1)) M = _
        unfold fb_Qu_negation
        rw [jp_322_0, e1]
        simp only [Option.bind_some]
        rw [e2]; rfl
      rw [ng]
      rcases h2 with ⟨v2, b2, s2, a2, Q, D, v, K2, N2, lt, m2, d2, sf2, hU2, hR2, hb2, hY2, hQ2, r2, y2, eK, len, x2, fu⟩ | ⟨v2, h2⟩
      · have v2 : w2 = 1 := v2
        have d2 : z_RD T n b2 M2 := d2
        have sf2 : z_SF M1 M2 := sf2
        have hU2 : M2.1 322 3 = nI (u + 1) := hU2
        obtain rfl := y_nil hQ2
        obtain ⟨M3, e3, nr⟩ := c_neg (gf := fg_Qu_test k) hU2 (by omega) hR2
        rw [v2, if_neg z_10, e3]
        refine ⟨(1, M3), rfl, (re1.yf.tr F2).tr nr.2.2.f, Or.inl ⟨rfl, b2, trivial, a2, [], 12 :: D, _, K2, N2, by omega, m2, d2.yg nr.2.2, (sf1.tr sf2).tr nr.2.2.sf, nr.1, nr.2.1, fun i hi => ?_, y_P.not hY2 hb2, (fun _ h => nomatch h), r2, ?_, ?_, ?_, X1.tr x2, fun f h => ?_⟩⟩
        · show y_01 (if v i = 0 then 1 else 0)
          split
          · exact Or.inr rfl
          · exact Or.inl rfl
        · have : o + 1 - (12 :: Nk).length = o - Nk.length := by rw [List.length_cons]; omega
          rw [this] at y2; exact y2
        · rw [eK, List.reverse_cons, List.append_assoc]; rfl
        · simp only [List.length_nil, List.length_reverse, List.length_cons] at len ⊢
          omega
        · obtain ⟨f', rfl⟩ : ∃ f', f = f' + 1 := ⟨f - 1, by omega⟩
          obtain ⟨g2, f2, h2', e2'⟩ := fu f' (by omega)
          exact ⟨g2, f2, h2', (st f').trans e2'⟩
      · have v2 : w2 = 0 := v2
        rw [v2, if_pos rfl]
        exact ⟨(0, M2), rfl, re1.yf.tr F2, Or.inr ⟨rfl, t_bad.on hb st (by omega) X1 h2⟩⟩
    · subst o6
      rw [if_neg (by decide)]
      exact ⟨(0, _), rfl, (z_RE.rf.f.f : z_RE M _).yf, Or.inr ⟨rfl, t_bad.it hb st X1 (z_FF.mk1 (z_CF.mk 4 _) mf (by decide) (by decide))⟩⟩
  · rw [z_b0 sn, show (91 : Int32) = nI 91 from rfl, c_isSign hw hTc hb hD (by decide)]
    simp only [Option.bind_some]
    by_cases s91 : z_sg T n b 91
    · rw [z_b1 s91]
      have hlt := hen.2.2.1 (z_so_3.mp s91.1).1
      obtain ⟨N1, X1, k1⟩ := t_A_sq hw hm hr hy ho (by rw [List.length_append]; omega) s91
      rw [c_mayOpen hD]
      rcases k1 with ⟨o6, st, r1, y1⟩ | ⟨o6, st, mf⟩
      · rw [if_pos (show nI o < 6 from nI_lt (b := 6) o6 (by decide))]
        simp only [Option.bind_some]
        rw [if_neg z_10, nI_1]
        obtain ⟨M1, e1, d1, re1, sf1⟩ := c_next hw hTc hb hD
        rw [e1]
        simp only [Option.bind_some]
        have hI1 : y_I T n (z_en T n b) oo A nm P u 0 (o + 1) (25 :: (Nk ++ W0)) K M1 N1 := hI'.to (w := 0) hW re1.yf hen.2.2.2 d1 (by rw [re1.1 322 (by omega)]; exact hU) X1 r1 y1 (by rw [List.length_cons, List.length_append]; omega)
        obtain ⟨⟨w2, M2⟩, e2, F2, h2⟩ := hS o6 (z_en T n b) u (25 :: (Nk ++ W0)) K M1 N1 hI1 (y_nh.cons (by unfold y_11; decide)) (y_nh.cons (by unfold y_12; decide)) (fun x hx => by
          rcases List.mem_cons.mp hx with e | h
          · omega
          · rcases List.mem_append.mp h with h | h
            · have := hNk x h; omega
            · exact hV x h) (by omega)
        have F2 : y_F u M1 M2 := F2
        rw [e2]
        simp only [Option.bind_some]
        rcases h2 with ⟨v2, b2, s2, a2, Q, D, v, K2, N2, lt, m2, d2, sf2, hU2, hR2, hb2, hY2, hQ2, r2, y2, eK, len, x2, fu⟩ | ⟨v2, h2⟩
        · have v2 : w2 = 1 := v2
          have d2 : z_RD T n b2 M2 := d2
          have sf2 : z_SF M1 M2 := sf2
          have hU2 : M2.1 322 3 = nI (u + 1) := hU2
          have bn2 := m2.1
          simp only [List.nil_append, List.length_nil, Nat.zero_add] at eK len
          rw [v2, if_neg z_10]
          have tc2 : z_tc n T M2 := hTc.yf (re1.yf.tr F2)
          obtain ⟨⟨w3, M3⟩, e3, re3, h3⟩ := c_sign (c := 93) hw tc2 m2.1 d2 (by decide)
          have re3 : z_RE M2 M3 := re3
          have F3 : y_F u M M3 := (re1.yf.tr F2).tr re3.yf
          rw [show (93 : Int32) = nI 93 from rfl, e3]
          simp only [Option.bind_some]
          have hQ25 : ∀ x, x ∈ Q → x ≠ 25 := fun x hx => by have := hQ2 x hx; unfold y_11 at this; omega
          rcases h3 with ⟨s93, w31, d3, sf3⟩ | ⟨s93, w30, cf⟩
          · have w31 : w3 = 1 := w31
            have d3 : z_RD T n (z_en T n b2) M3 := d3
            have sf3 : z_SF M2 M3 := sf3
            have hen2 := z_en_s (T := T) m2.1
            have hlt2 := hen2.2.2.1 (z_so_3.mp s93.1).1
            have hsk2 := z_sk_s (T := T) m2.1
            obtain ⟨N3, eB, r3, y3, x3⟩ := t_B_close (o := o - Nk.length) hw m2 r2 s93 (by rw [Nat.sub_add_cancel hLo]; exact y2) hQ25 hNk hT (by omega)
            have eL : (D ++ K).length = Q.length + K2.length := by rw [← eK, List.length_append, List.length_reverse]
            rw [w31, if_neg z_10]
            refine ⟨(1, M3), rfl, F3, Or.inl ⟨rfl, z_en T n b2, trivial, _, [], D, v, _, N3, by omega, hen2.2.2.2, d3, (sf1.tr sf2).tr sf3, by rw [re3.1 322 (by omega)]; exact hU2, ?_, hb2, hY2, (fun _ h => nomatch h), r3, y3, ?_, ?_, (X1.tr x2).tr x3, fun f h => ?_⟩⟩
            · exact fun i hi => by rw [re3.1 (324 + u) (by omega)]; exact hR2 i hi
            · rw [eK]; rfl
            · rw [eK]
              show 0 + (Nk.reverse ++ (D ++ K)).length + b ≤ _
              rw [List.length_append, eL]
              omega
            · obtain ⟨f', rfl⟩ : ∃ f', f = f' + 1 := ⟨f - 1, by omega⟩
              obtain ⟨g2, f2, h2', e2'⟩ := fu f' (by omega)
              obtain ⟨g3, rfl⟩ : ∃ g3, g2 = g3 + 1 := ⟨g2 - 1, by unfold y_fu at h2'; omega⟩
              exact ⟨g3, f2, h2'.up (by omega) (Nat.le_refl _) (Nat.le_succ _), ((st f').trans e2').trans (eB g3 f2)⟩
          · have w30 : w3 = 0 := w30
            have cf : z_CF 1 (z_sk T n b2) M3 := cf
            obtain ⟨N3, eB, mf, x3⟩ := t_B_noClose hw m2 r2 ((hK.yx X1).yx x2) s93 s2.1 s2.2 y2 (by rw [List.length_append]; omega)
            rw [w30, if_pos rfl]
            refine ⟨(0, M3), rfl, F3, Or.inr ⟨rfl, N3, z_FF.mk1 cf mf (by decide) (by decide), (X1.tr x2).tr x3, fun f h => ?_⟩⟩
            obtain ⟨f', rfl⟩ : ∃ f', f = f' + 1 := ⟨f - 1, by omega⟩
            obtain ⟨g2, f2, h2', e2'⟩ := fu f' (by omega)
            obtain ⟨g3, rfl⟩ : ∃ g3, g2 = g3 + 1 := ⟨g2 - 1, by unfold y_fu at h2'; omega⟩
            obtain ⟨f3, rfl⟩ : ∃ f3, f2 = f3 + 1 := ⟨f2 - 1, by unfold y_fu at h2'; omega⟩
            exact ((st f').trans e2').trans (eB g3 f3)
        · have v2 : w2 = 0 := v2
          rw [v2, if_pos rfl]
          exact ⟨(0, M2), rfl, re1.yf.tr F2, Or.inr ⟨rfl, t_bad.on hb st (by omega) X1 h2⟩⟩
      · subst o6
        rw [if_neg (by decide)]
        exact ⟨(0, _), rfl, (z_RE.rf.f.f : z_RE M _).yf, Or.inr ⟨rfl, t_bad.it hb st X1 (z_FF.mk1 (z_CF.mk 4 _) mf (by decide) (by decide))⟩⟩
    · rw [z_b0 s91]
      obtain ⟨N1, X1, r1, st⟩ := t_A_fact hw hm hr hK sn s91
      have hI1 : y_I T n b oo A nm P u 0 o (Nk ++ W0) K M N1 := ⟨hm, hD, hTc, hC, hU, ⟨_, r1⟩, hK.lx X1, hy.lx X1, hl⟩
      have hge : ∀ x, x ∈ Nk ++ W0 → 10 ≤ x := fun x h => by
        rcases List.mem_append.mp h with h | h
        · have := hNk x h; omega
        · exact hV x h
      obtain ⟨⟨w2, M2⟩, N2, e2, e3, F2, x2, h2⟩ := g_fact hw hW h00 ho hI1 (fun x e h => by
        have : x ∈ Nk ++ W0 := List.mem_of_mem_head? (by rw [e]; rfl)
        have := hge x this
        unfold y_su at h; omega) hu
      have F2 : y_F u M M2 := F2
      rw [jp_322_0] at e2
      rw [e2]
      refine ⟨(w2, M2), rfl, F2, ?_⟩
      rcases h2 with ⟨w21, b2, a2, D, v, lt, m2, d2, sf2, hU2, hR2, hb2, hY2, r2, y2, len⟩ | ⟨w20, ff⟩
      · have bn2 := m2.1
        obtain ⟨N3, e4, y3, x3⟩ := m_nots (m := jfuel) (o := o - Nk.length) hT hNk (by rw [Nat.sub_add_cancel hLo]; exact y2) r2.2.2.2.2.2.1 (by simp only [List.length_append]; omega) (by rw [z_jf]; omega)
        have r3 := r2.y x3
        refine Or.inl ⟨w21, b2, trivial, a2, [], D, v, _, N3, lt, m2, d2, sf2, hU2, hR2, hb2, hY2, (fun _ h => nomatch h), r3, y3, rfl, ?_, (X1.yx.tr x2).tr x3.yx, fun f h => ?_⟩
        · simp only [List.length_nil, List.length_append, List.length_reverse]
          omega
        · obtain ⟨f', rfl⟩ : ∃ f', f = f' + 1 := ⟨f - 1, by omega⟩
          refine ⟨jfuel, f', ⟨by rw [z_jf]; omega, by omega⟩, ?_⟩
          rw [st, e3]
          simp only [Option.bind_some]
          unfold f_Mo_qDropsNots
          rw [e4]
          exact t_PS0 r3.2.2.2.2.2.1
      · have ff : z_FF M2 N2 := ff
        refine Or.inr ⟨w20, N2, ff, X1.yx.tr x2, fun f h => ?_⟩
        obtain ⟨f', rfl⟩ : ∃ f', f = f' + 2 := ⟨f - 2, by omega⟩
        rw [show f' + 2 = f' + 1 + 1 from rfl, st, e3]
        simp only [Option.bind_some]
        unfold f_Mo_qDropsNots
        rw [show jfuel = 1999 + 1 from rfl, lp_Mo_qDropsNots_0, if_neg ff.bad]
        exact t_PS1 ff.bad
theorem t_all (hw : z_wt n T) (hW : z_WB A nm P) (h00 : 0 < A 0 0) : ∀ j o k, o + j = 6 → t_CF T n oo A nm P (3 * j + 2 + k) o := by
  intro j
  induction j with
  | zero =>
    intro o k ho
    rw [show 3 * 0 + 2 + k = k + 2 by omega]
    exact t_fact hw hW h00 (by omega) (fun q => by omega) (fun q => by omega)
  | succ j ih =>
    intro o k ho
    rw [show 3 * (j + 1) + 2 + k = (3 * j + 2 + k + 1) + 2 by omega]
    refine t_fact hw hW h00 (by omega) (fun _ => t_test hw hW (by omega) (t_both hw hW (by omega) (ih (o + 1) k (by omega)))) (fun _ => ?_)
    exact ih (o + 1) (k + 1) (by omega)
theorem t_tests (hw : z_wt n T) (hW : z_WB A nm P) (h00 : 0 < A 0 0) : t_CT T n oo A nm P 40 0 := by
  have := t_all (oo := oo) hw hW h00 6 0 18 (by omega)
  exact t_test hw hW (by omega) (t_both hw hW (by omega) this)
/-- a whole TEST -/
theorem g_test (hw : z_wt n T) (hW : z_WB A nm P) (h00 : 0 < A 0 0) (hI : y_I T n b oo A nm P 0 0 0 [] [] M N) :
    ∃ r N', f_Qu_test 40 322 (nI 0) M = some r ∧ f_Mo_qTest 366 N = some N' ∧ y_end T n b A (r_v A (z_pa P)) 0 0 0 [] [] y_01 M N r N' := by
  have hn := hw.1
  have hb := hI.1.1
  obtain ⟨⟨w1, M1⟩, e1, F1, h1⟩ := t_tests hw hW h00 b 0 [] [] M N hI (fun _ h => nomatch h) (fun _ h => nomatch h) (fun _ h => nomatch h) (by omega)
  have F1 : y_F 0 M M1 := F1
  rcases h1 with ⟨v1, b1, s1, a1, Q, D, v, K1, N1, lt, m1, d1, sf, hU, hR, hbn, hY, hQ, r1, y1, eK, len, x1, fu⟩ | ⟨v0, N1, ff, x1, fu⟩
  · have v1 : w1 = 1 := v1
    have bn1 := m1.1
    simp only [List.nil_append, List.length_nil, Nat.zero_add, Nat.add_zero] at eK len
    have eL : (D ++ []).length = Q.length + K1.length := by rw [← eK, List.length_append, List.length_reverse]
    rw [List.append_nil] at eL y1
    obtain ⟨g', f', h', e'⟩ := fu jfuel (by rw [z_jf]; omega)
    obtain ⟨g3, rfl⟩ : ∃ g3, g' = g3 + 1 := ⟨g' - 1, by unfold y_fu at h'; omega⟩
    obtain ⟨f3, rfl⟩ : ∃ f3, f' = f3 + 1 := ⟨f' - 1, by unfold y_fu at h'; omega⟩
    obtain ⟨N2, eB, r2, y2, x2⟩ := t_B_end hw m1 r1 (hI.2.2.2.2.2.2.1.yx x1) s1.1 s1.2 y1 (by omega) (fun x hx => by have := hQ x hx; unfold y_11 at this; omega)
    obtain ⟨N3, e3, y3, x3⟩ := m_fin (m := jfuel) y2 r2.2.2.2.2.2.1 (by omega) (by rw [z_jf]; omega)
    rw [eK] at y3
    refine ⟨(w1, M1), N3, e1, ?_, F1, (x1.tr x2).tr x3.yx, Or.inl ⟨v1, b1, _, D, v, lt, m1, d1, sf, hU, hR, hbn, hY, r2.y x3, y3, by omega⟩⟩
    unfold f_Mo_qTest
    rw [show lp_Mo_qTest_2 366 jfuel 1 N = some N2 from e'.trans (eB g3 f3)]
    simp only [Option.bind_some]
    rw [e3]; rfl
  · have v0 : w1 = 0 := v0
    refine ⟨(w1, M1), N1, e1, ?_, F1, x1, Or.inr ⟨v0, ff⟩⟩
    unfold f_Mo_qTest
    rw [show lp_Mo_qTest_2 366 jfuel 1 N = some N1 from fu jfuel (by rw [z_jf]; omega)]
    simp only [Option.bind_some]
    rw [show jfuel = 1999 + 1 from rfl, lp_Mo_qTest_110, if_neg ff.bad]; rfl
end
