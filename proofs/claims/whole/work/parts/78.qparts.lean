/-! ===== pure: min, max; any part, both ===== -/
section
variable {T : Nat → Nat} {n b b' b1 oo u B o k : Nat} {A : ZA} {nm : Nat → Nat → Nat} {P : ZP} {Lk W0 W K : List Nat} {M N M' N' N1 N2 M1 M2 : SM}
theorem y_brk2 {w : Nat} (hw : z_wt n T) (hW : z_WB A nm P) (ho : o ≤ 6) (hS : o < 6 → y_CS T n oo A nm P k (o + 1)) (hI : y_I T n b oo A nm P u B o (Lk ++ W0) K M N) (hL : ∀ x, x ∈ Lk → 60 ≤ x) (hT : y_tp B W0) (hLo : Lk.length ≤ o) (hu : u ≤ 3 * o + 5) (hw2 : w < 2) (wi : y_wi T n b = some (8 + w)) (d1 : z_RD T n (z_en T n b) M1) (re1 : z_RE M M1) (sf1 : z_SF M M1) :
    ∃ r, ((f_Re_isSign (jpf 322 0) 40 M1).bind fun q18 => if q18 = 0 then ((f_Re_refuse (jpf 322 0) M1).bind fun q20 => (bchk q20.1).bind fun b21 => some (b21, q20.2)) else ((fb_Qu_bracket (fg_Qu_sum k) 322 (nI o) 1 M1).bind fun q22 => if q22.1 = 0 then (some (0, q22.2)) else ((f_Re_takeSign (jpf 322 0) 41 q22.2).bind fun q24 => if q24.1 = 0 then (some (0, q24.2)) else ((if nI (8 + w) = 8 then (some 109) else (some 77) : Option (Int32)).bind fun q26 => (f_Qu_join 322 q26 q24.2).bind fun q28 => some (1, q28))))) = some r ∧ y_res (fun _ => False) (fun _ => True) T n b A (r_v A (z_pa P)) (o - Lk.length) B u W0 Lk.reverse K M N r := by
  have hI' := hI
  obtain ⟨hm, hD, hTc, hC, hU, ⟨a, hr⟩, hK, hy, hl⟩ := hI
  have hn := hw.1
  have hb := hm.1
  have h5 := hr.2.2.2.2.2.1
  have hen := z_en_s (T := T) hb
  have hlt := hen.2.2.1 (z_so_1 (y_wi_so wi)).1
  have hsk := z_sk_s (T := T) hb
  have hbe : b < z_en T n b := by omega
  have hL2 : Lk.length + W0.length + K.length ≤ b := by rw [List.length_append] at hl; exact hl
  have tc1 : z_tc n T M1 := hTc.re re1
  obtain ⟨⟨vi, N1⟩, ei, X1, cb1, cs⟩ := y_it_s hw hm hr hK hy ho (by rw [List.length_append]; omega) (by omega)
  have X1 : y_X N N1 := X1
  have c345 : (¬ z_sg T n (z_en T n b) 40 ∧ z_MF 1 (z_sk T n (z_en T n b)) N1) ∨ (z_sg T n (z_en T n b) 40 ∧ o = 6 ∧ z_MF 4 (z_sk T n (z_en T n b)) N1) ∨ (z_sg T n (z_en T n b) 40 ∧ o < 6 ∧ vi = 1 ∧ z_RF T n (z_en T n (z_en T n b)) (z_en T n (z_en T n b)) N1 ∧ y_M B (o + 1) ((21 + w) :: (Lk ++ W0)) K N1) := by
    rcases cs with h | h | h | h | h | h | h | h
    · have := y_sgw h.1; rw [wi] at this; cases this
    · have := y_sgw h.1; rw [wi] at this; cases this
    · obtain ⟨w', w2, e, h⟩ := h; exact Or.inl h
    · obtain ⟨w', w2, e, h⟩ := h; exact Or.inr (Or.inl h)
    · obtain ⟨w', w2, e, h⟩ := h
      rw [wi] at e
      have : w = w' := by have := Option.some.inj e; omega
      subst this
      exact Or.inr (Or.inr h)
    · obtain ⟨w', w2, e, _⟩ := h; rw [wi] at e; have := Option.some.inj e; omega
    · obtain ⟨w', w2, e, _⟩ := h; rw [wi] at e; have := Option.some.inj e; omega
    · have := h.2.1 _ wi; omega
  rw [jp_322_0, show (40 : Int32) = nI 40 from rfl, c_isSign hw tc1 hen.2.1 d1 (by decide)]
  simp only [Option.bind_some]
  rcases c345 with ⟨s40, mf⟩ | ⟨s40, o6, mf⟩ | ⟨s40, o6, rfl, r1, y1⟩
  · rw [z_b0 s40, c_refuse]
    simp only [Option.bind_some]
    rw [z_bchk (Or.inl rfl)]
    refine ⟨_, rfl, (re1.tr z_RE.rf.f.f).yf, Or.inr ⟨rfl, y_bad.it hb h5 ei X1 cb1 (z_FF.mk1 (f := 1) (p := z_sk T n (z_en T n b)) ?_ mf (by decide) (by decide))⟩⟩
    rw [d1.2.1]
    exact z_CF.mk 1 _
  · subst o6
    rw [z_b1 s40]
    unfold fb_Qu_bracket
    rw [c_mayOpen d1, if_neg (by decide)]
    refine ⟨(0, _), rfl, (re1.tr z_RE.rf.f.f).yf, Or.inr ⟨rfl, y_bad.it hb h5 ei X1 cb1 (z_FF.mk1 (z_CF.mk 4 _) mf (by decide) (by decide))⟩⟩
  · rw [z_b1 s40]
    have hen1 := z_en_s (T := T) hen.2.1
    have hlt1 := hen1.2.2.1 (z_so_3.mp s40.1).1
    have hsk1 := z_sk_s (T := T) hen.2.1
    have hbe2 : b < z_en T n (z_en T n b) := by omega
    obtain ⟨M2, e2, d2, re2, sf2⟩ := c_next hw tc1 hen.2.1 d1
    have hB : B ≤ (Lk ++ W0).length := by rw [List.length_append]; rcases hT with q | q <;> omega
    have hI2 : y_I T n (z_en T n (z_en T n b)) oo A nm P u B (o + 1) ((21 + w) :: (Lk ++ W0)) K M2 N1 := hI'.to (w := 0) hW (re1.tr re2).yf hen1.2.2.2 d2 (by rw [re2.1 322 (by omega), re1.1 322 (by omega)]; exact hU) X1 r1 y1 (by rw [List.length_cons, List.length_append]; omega)
    obtain ⟨⟨w3, M3⟩, e3, F3, h3⟩ := hS o6 (z_en T n (z_en T n b)) B u ((21 + w) :: (Lk ++ W0)) K M2 N1 hI2 (Or.inr ⟨by rw [List.length_cons]; omega, y_nh.cons (by omega)⟩) (y_nh.cons (by unfold y_su; omega)) (by omega)
    have F3 : y_F u M2 M3 := F3
    have FF3 : y_F u M M3 := (re1.tr re2).yf.tr F3
    have bk : fb_Qu_bracket (fg_Qu_sum k) 322 (nI o) 1 M1 = if w3 = 0 then some (0, M3) else ((f_Re_takeSign 3 44 M3).bind fun q7 => if q7.1 = 0 then (some (0, q7.2)) else (((fg_Qu_sum k).1 322 (nI (o + 1)) q7.2).bind fun q9 => if q9.1 = 0 then (some (0, q9.2)) else (some (1, q9.2)))) := by
      unfold fb_Qu_bracket
      rw [c_mayOpen d1, if_pos (show nI o < 6 from nI_lt (b := 6) o6 (by decide)), jp_322_0]
      simp only [Option.bind_some]
      rw [if_neg z_10, e2, nI_1]
      simp only [Option.bind_some]
      rw [e3]
      simp only [Option.bind_some]
      rw [if_neg z_10]
    rw [bk]
    rcases h3 with ⟨v3, b3, s3, h3⟩ | ⟨v3, h3⟩
    · have v3 : w3 = 1 := v3
      obtain ⟨a3, Q, D, v, K3, N3, lt3, m3, d3, sf3, hU3, hR3, hb3, hY3, hQ3, r3, y3, eK, len, x3, fu3⟩ := h3
      have d3 : z_RD T n b3 M3 := d3
      have sf3 : z_SF M2 M3 := sf3
      have hU3 : M3.1 322 3 = nI (u + 1) := hU3
      have bn3 := m3.1
      simp only [List.nil_append, List.length_nil, Nat.zero_add] at eK len
      have eL : (D ++ K).length = Q.length + K3.length := by rw [← eK, List.length_append, List.length_reverse]
      rw [List.length_append] at eL
      rw [v3, if_neg z_10]
      have tc3 : z_tc n T M3 := hTc.yf FF3
      obtain ⟨⟨w4, M4⟩, e4, re4, h4⟩ := c_sign (c := 44) hw tc3 m3.1 d3 (by decide)
      have re4 : z_RE M3 M4 := re4
      have FF4 : y_F u M M4 := FF3.tr re4.yf
      rw [show (44 : Int32) = nI 44 from rfl, e4]
      simp only [Option.bind_some]
      have go1 : ∀ g f, y_fu n b g f → ∃ g2 f2, y_fu n b3 (g2 + 1) (f2 + 1) ∧ y_A g f N = y_B (g2 + 1) (f2 + 1) N3 := fun g f h => by
        obtain ⟨g', h', e'⟩ := y_fuA hb h5 ei hbe2 h
        obtain ⟨g2, f2, h2', e2'⟩ := fu3 g' f h'
        obtain ⟨g3, rfl⟩ : ∃ g3, g2 = g3 + 1 := ⟨g2 - 1, by unfold y_fu at h2'; omega⟩
        obtain ⟨f3, rfl⟩ : ∃ f3, f2 = f3 + 1 := ⟨f2 - 1, by unfold y_fu at h2'; omega⟩
        exact ⟨g3, f3, h2', e'.trans e2'⟩
      rcases h4 with ⟨s44, w41, d4, sf4⟩ | ⟨s44, w40, cf⟩
      · have w41 : w4 = 1 := w41
        have d4 : z_RD T n (z_en T n b3) M4 := d4
        have sf4 : z_SF M3 M4 := sf4
        have hen3 := z_en_s (T := T) m3.1
        have hlt3 := hen3.2.2.1 (z_so_3.mp s44.1).1
        have hsk3 := z_sk_s (T := T) m3.1
        rw [w41, if_neg z_10]
        obtain ⟨N4, eB, r4, y4, x4⟩ := y_B_com (show 21 + w = 21 ∨ 21 + w = 22 by omega) hw m3 r3 s44 y3 hQ3 hB (by rw [List.length_append]; omega)
        rw [eK] at y4
        have hI4 : y_I T n (z_en T n b3) oo A nm P (u + 1) B (o + 1) ((21 + w + 2) :: (Lk ++ W0)) (D ++ K) M4 N4 := hI'.to (w := u) hW FF4 hen3.2.2.2 d4 (by rw [re4.1 322 (by omega)]; exact hU3) ((X1.tr x3).tr x4) r4 y4 (by rw [List.length_cons, List.length_append, List.length_append]; omega)
        obtain ⟨⟨w5, M5⟩, e5, F5, h5'⟩ := hS o6 (z_en T n b3) B (u + 1) ((21 + w + 2) :: (Lk ++ W0)) (D ++ K) M4 N4 hI4 (Or.inr ⟨by rw [List.length_cons]; omega, y_nh.cons (by omega)⟩) (y_nh.cons (by unfold y_su; omega)) (by omega)
        have F5 : y_F (u + 1) M4 M5 := F5
        have FF5 : y_F u M M5 := FF4.tr (F5.dn (by omega))
        rw [e5]
        simp only [Option.bind_some]
        have go2 : ∀ g f, y_fu n b g f → ∃ f2, y_fu n (z_en T n b3) jfuel f2 ∧ y_A g f N = y_A jfuel f2 N4 := fun g f h => by
          obtain ⟨g2, f2, h2, e2'⟩ := go1 g f h
          exact ⟨f2, h2.j hw (by omega) (Nat.le_refl _), e2'.trans (eB g2 f2)⟩
        rcases h5' with ⟨v5, b5, s5, h5'⟩ | ⟨v5, N6, ff, x6, cb6, fu6⟩
        · have v5 : w5 = 1 := v5
          obtain ⟨a5, Q5, D5, v5', K5, N5, lt5, m5, d5, sf5, hU5, hR5, hb5, hY5, hQ5, r5, y5, eK5, len5, x5, fu5⟩ := h5'
          have d5 : z_RD T n b5 M5 := d5
          have sf5 : z_SF M4 M5 := sf5
          have bn5 := m5.1
          simp only [List.nil_append, List.length_nil, Nat.zero_add] at eK5 len5
          have eL5 : (D5 ++ (D ++ K)).length = Q5.length + K5.length := by rw [← eK5, List.length_append, List.length_reverse]
          simp only [List.length_append] at eL5 len5
          rw [v5, if_neg z_10]
          simp only [Option.bind_some]
          rw [if_neg z_10]
          have tc5 : z_tc n T M5 := hTc.yf FF5
          obtain ⟨⟨w6, M6⟩, e6, re6, h6⟩ := c_sign (c := 41) hw tc5 m5.1 d5 (by decide)
          have re6 : z_RE M5 M6 := re6
          rw [show (41 : Int32) = nI 41 from rfl, e6]
          simp only [Option.bind_some]
          rcases h6 with ⟨s41, w61, d6, sf6⟩ | ⟨s41, w60, cf⟩
          · have w61 : w6 = 1 := w61
            have d6 : z_RD T n (z_en T n b5) M6 := d6
            have sf6 : z_SF M5 M6 := sf6
            have hen5 := z_en_s (T := T) m5.1
            have hlt5 := hen5.2.2.1 (z_so_3.mp s41.1).1
            have hsk5 := z_sk_s (T := T) m5.1
            obtain ⟨N6, eB6, r6, y6, x6⟩ := y_B_close (o := o - Lk.length) (c := 21 + w + 2) (by omega) hw m5 r5 s41 (by rw [Nat.sub_add_cancel hLo]; exact y5) hQ5 hL hT (by omega)
            have ej : (if nI (8 + w) = 8 then (some 109) else (some 77) : Option (Int32)) = some (y_sg (5 + w)) := by
              have : w = 0 ∨ w = 1 := by omega
              rcases this with rfl | rfl <;> decide
            rw [w61, if_neg z_10, ej]
            simp only [Option.bind_some]
            have hR3' : y_R u v M6 := hR3.f ((re4.yf.tr F5).tr re6.yf) (Nat.lt_succ_self u)
            have hR5' : y_R (u + 1) v5' M6 := hR5.f (u := u + 2) re6.yf (Nat.lt_succ_self _)
            have hc : ∀ i, i < 61 → (5 + w = 10 ∨ 5 + w = 11) ∧ y_01 (v i) ∧ y_01 (v5' i) ∨ (1 ≤ 5 + w ∧ 5 + w ≤ 9) ∧ y_bn (v i) ∧ y_bn (v5' i) := fun i hi => Or.inr ⟨by omega, hb3 i hi, hb5 i hi⟩
            obtain ⟨M7, e7, U7, R7, G7⟩ := c_join (c := 5 + w) (u := u) (by rw [re6.1 322 (by omega)]; exact hU5) (by omega) hR3' hR5' hc
            rw [e7]
            have ecc : y_cc (21 + w + 2) = [5 + w] := by
              have : w = 0 ∨ w = 1 := by omega
              rcases this with rfl | rfl <;> decide
            rw [ecc, eK5] at y6
            refine ⟨(1, M7), rfl, (FF5.tr re6.yf).tr G7.f, Or.inl ⟨rfl, z_en T n b5, trivial, _, [], (5 + w) :: (D5 ++ D), _, _, N6, by omega, hen5.2.2.2, d6.yg G7, (((((sf1.tr sf2).tr sf3).tr sf4).tr sf5).tr sf6).tr G7.sf, U7, R7, fun i hi => (y_j_s (hc i hi)).2.2.1, y_P.join hY3 hY5 (Or.inr ⟨by omega, fun i hi => ⟨hb3 i hi, hb5 i hi⟩⟩), (fun _ h => nomatch h), r6, y6, ?_, ?_, (((X1.tr x3).tr x4).tr x5).tr x6, fun g f h => ?_⟩⟩
            · show Lk.reverse ++ ((5 + w) :: (D5 ++ (D ++ K))) = Lk.reverse ++ ((5 + w) :: (D5 ++ D ++ K))
              rw [List.append_assoc]
            · simp only [List.length_append, List.length_reverse, List.length_cons, List.length_nil]
              omega
            · obtain ⟨f2, h2, e2'⟩ := go2 g f h
              obtain ⟨g5, f5, h5'', e5'⟩ := fu5 jfuel f2 h2
              obtain ⟨g3, rfl⟩ : ∃ g3, g5 = g3 + 1 := ⟨g5 - 1, by unfold y_fu at h5''; omega⟩
              exact ⟨g3, f5, h5''.up (by omega) (Nat.le_refl _) (Nat.le_succ _), (e2'.trans e5').trans (eB6 g3 f5)⟩
          · have w60 : w6 = 0 := w60
            have cf : z_CF 1 (z_sk T n b5) M6 := cf
            obtain ⟨N6, eB6, mf, cb6, x6⟩ := y_B_noClose (c := 21 + w + 2) (by omega) hw m5 r5 s41 s5.1.1 s5.1.2 s5.2.1 s5.2.2 y5 hQ5 hB (by rw [List.length_append]; omega)
            rw [w60, if_pos rfl]
            refine ⟨(0, M6), rfl, FF5.tr re6.yf, Or.inr ⟨rfl, N6, z_FF.mk1 cf mf (by decide) (by decide), (((X1.tr x3).tr x4).tr x5).tr x6, cb6, fun g f h => ?_⟩⟩
            obtain ⟨f2, h2, e2'⟩ := go2 g f h
            obtain ⟨g5, f5, h5'', e5'⟩ := fu5 jfuel f2 h2
            obtain ⟨g3, rfl⟩ : ∃ g3, g5 = g3 + 1 := ⟨g5 - 1, by unfold y_fu at h5''; omega⟩
            obtain ⟨f3, rfl⟩ : ∃ f3, f5 = f3 + 1 := ⟨f5 - 1, by unfold y_fu at h5''; omega⟩
            exact (e2'.trans e5').trans (eB6 g3 f3)
        · have v5 : w5 = 0 := v5
          rw [v5, if_pos rfl]
          refine ⟨(0, M5), rfl, FF5, Or.inr ⟨rfl, N6, ff, ((X1.tr x3).tr x4).tr x6, cb6, fun g f h => ?_⟩⟩
          obtain ⟨f2, h2, e2'⟩ := go2 g f h
          exact e2'.trans (fu6 jfuel f2 h2)
      · have w40 : w4 = 0 := w40
        have cf : z_CF 1 (z_sk T n b3) M4 := cf
        obtain ⟨N4, eB, mf, cb4, x4⟩ := y_B_noCom (show 21 + w = 21 ∨ 21 + w = 22 by omega) hw m3 r3 s44 s3.1.1 s3.1.2 s3.2.1 s3.2.2 y3 hQ3 hB (by rw [List.length_append]; omega)
        rw [w40, if_pos rfl]
        refine ⟨(0, M4), rfl, FF4, Or.inr ⟨rfl, N4, z_FF.mk1 cf mf (by decide) (by decide), (X1.tr x3).tr x4, cb4, fun g f h => ?_⟩⟩
        obtain ⟨g2, f2, h2, e2'⟩ := go1 g f h
        exact e2'.trans (eB g2 f2)
    · have v3 : w3 = 0 := v3
      rw [v3, if_pos rfl]
      exact ⟨(0, M3), rfl, FF3, Or.inr ⟨rfl, y_bad.on hb h5 ei hbe2 X1 h3⟩⟩
theorem y_part1 (hw : z_wt n T) (hW : z_WB A nm P) (h00 : 0 < A 0 0) (ho : o ≤ 6) (hS : o < 6 → y_CS T n oo A nm P k (o + 1)) (hP : o < 6 → y_CP T n oo A nm P k (o + 1)) : y_CP T n oo A nm P (k + 2) o := by
  have hn := hw.1
  intro b B u Lk W0 K M N hI hL hT hLo hu
  have hI' := hI
  obtain ⟨hm, hD, hTc, hC, hU, ⟨a, hr⟩, hK, hy, hl⟩ := hI
  have hb := hm.1
  have h5 := hr.2.2.2.2.2.1
  have hen := z_en_s (T := T) hb
  have hsk := z_sk_s (T := T) hb
  show ∃ r, fb_Qu_part (fg_Qu_sum (k + 1)) 322 (nI o) M = some r ∧ _
  have bch : ∀ {x : Option (Int32 × SM)} {Q : Int32 × SM → Prop}, (∃ r, x = some r ∧ Q r) → (∀ r, Q r → r.1 = 0 ∨ r.1 = 1) → ∃ r, (x.bind fun q => (bchk q.1).bind fun c => some (c, q.2)) = some r ∧ Q r := fun ⟨r, e, q⟩ h01 => by
    refine ⟨r, ?_, q⟩
    rw [e]
    simp only [Option.bind_some]
    rw [z_bchk (h01 r q)]; rfl
  have r01 : ∀ {r}, y_res (fun _ => False) (fun _ => True) T n b A (r_v A (z_pa P)) (o - Lk.length) B u W0 Lk.reverse K M N r → r.1 = 0 ∨ r.1 = 1 := fun h => by
    rcases h.2 with h | h
    · exact Or.inr h.1
    · exact Or.inl h.1
  unfold fb_Qu_part
  rw [jp_322_0, c_isNum hD]
  simp only [Option.bind_some]
  by_cases n2 : z_so T n b = 2
  · rw [z_b1 n2]
    have nw : y_wi T n b = none := by
      cases e : y_wi T n b with
      | none => rfl
      | some i => have := y_wi_so e; omega
    have n40 : ¬ z_sg T n b 40 := fun h => by have := h.1; omega
    have hlt := hen.2.2.1 (z_so_2 n2).1
    have p0 := y_part0 hw hW h00 ho hI' hL hT hLo hu n40 (fun i e => by rw [nw] at e; cases e)
    obtain ⟨⟨v1, M1⟩, e1, re1, h1⟩ := c_num (lo := 0) (hi := 9999) hw hTc hb hD (by decide) (by decide)
    have re1 : z_RE M M1 := re1
    have e1' : f_Re_takeNumber 3 0 9999 M = some (v1, M1) := e1
    rw [e1']
    simp only [Option.bind_some]
    rcases h1 with ⟨nf, ev, d1, sf1⟩ | ⟨f, p, nf, ev, cf⟩
    · have ev : v1 = _ := ev
      have d1 : z_RD T n (z_en T n b) M1 := d1
      have sf1 : z_SF M M1 := sf1
      have hv := (y_nfb nf).2.2
      rw [ev, if_neg (z_n0 (n := z_nv T (z_sk T n b) (z_en T n b - z_sk T n b)) (by omega))]
      obtain ⟨M2, e2, nr⟩ := c_addN (x := nI (z_nv T (z_sk T n b) (z_en T n b - z_sk T n b))) (M := M1) (u := u) (by rw [re1.1 322 (by omega)]; exact hU) (by omega)
      rw [e2]
      rcases p0 with ⟨_, _, k0⟩ | ⟨i, _, wi, _⟩ | ⟨_, f, p, nf', _⟩
      · exact ⟨(1, M2), rfl, re1.yf.tr nr.2.2.f, Or.inl ⟨rfl, _, trivial, (k0 _ M1 M2 rfl (by omega) d1 sf1 nr).1⟩⟩
      · rw [nw] at wi; cases wi
      · rw [nf] at nf'; cases nf'
    · have ev : v1 = -1 := ev
      have cf : z_CF f p M1 := cf
      rw [ev, if_pos (by decide)]
      rcases p0 with ⟨_, nf', _⟩ | ⟨i, _, wi, _⟩ | ⟨_, f', p', nf', k0⟩
      · rw [nf] at nf'; cases nf'
      · rw [nw] at wi; cases wi
      · rw [nf] at nf'
        obtain ⟨rfl, rfl⟩ := Prod.mk.inj (Option.some.inj nf')
        exact ⟨(0, M1), rfl, re1.yf, Or.inr ⟨rfl, k0 M1 cf⟩⟩
  · rw [z_b0 n2, show (40 : Int32) = nI 40 from rfl, c_isSign hw hTc hb hD (by decide)]
    simp only [Option.bind_some]
    by_cases s40 : z_sg T n b 40
    · rw [z_b1 s40]
      exact y_brk1 hw hW ho hS hI' hL hT hLo hu s40
    · rw [z_b0 s40, c_amongQ hw hb hD]
      simp only [Option.bind_some]
      cases wi : y_wi T n b with
      | none =>
        rw [show y_w none = -1 from rfl, if_pos (by decide), c_refuse]
        refine bch ⟨_, rfl, (z_RE.rf.f.f : z_RE M _).yf, Or.inr ⟨rfl, ?_⟩⟩ (fun r h => r01 h)
        have nf : z_nf T n b 0 9999 = some (1, z_sk T n b) := by unfold z_nf; rw [if_pos n2]
        rcases y_part0 hw hW h00 ho hI' hL hT hLo hu s40 (fun i e => by rw [wi] at e; cases e) with ⟨_, nf', _⟩ | ⟨i, _, wi', _⟩ | ⟨_, f', p', nf', k0⟩
        · rw [nf] at nf'; cases nf'
        · rw [wi] at wi'; cases wi'
        · rw [nf] at nf'
          obtain ⟨rfl, rfl⟩ := Prod.mk.inj (Option.some.inj nf')
          refine k0 _ ?_
          show z_CF 1 (z_sk T n b) (sI (sI M 3 5 1) 3 6 (M.1 3 3))
          rw [hD.2.1]
          exact z_CF.mk 1 _
      | some i =>
        have i10 := y_wi_lt wi
        have hlt := hen.2.2.1 (z_so_1 (y_wi_so wi)).1
        rw [show y_w (some i) = nI i from rfl, if_neg (z_n0 (n := i) (by omega))]
        by_cases c6 : i = 6
        · subst c6
          rw [if_pos (show nI 6 = 6 from rfl)]
          exact bch (y_lookU (w := 0) hw hW ho hP hI' hL hT hLo hu (by decide) wi) (fun r h => r01 h)
        rw [if_neg (fun (e : nI i = 6) => c6 ((nI_eq (b := 6) (by omega) (by decide)).mp e))]
        by_cases c7 : i = 7
        · subst c7
          rw [if_pos (show nI 7 = 7 from rfl)]
          exact bch (y_lookU (w := 1) hw hW ho hP hI' hL hT hLo hu (by decide) wi) (fun r h => r01 h)
        rw [if_neg (fun (e : nI i = 7) => c7 ((nI_eq (b := 7) (by omega) (by decide)).mp e))]
        obtain ⟨M1, e1, d1, re1, sf1⟩ := c_next hw hTc hb hD
        rw [e1]
        simp only [Option.bind_some]
        by_cases l6 : i < 6
        · rw [if_pos (show nI i < 6 from nI_lt (b := 6) l6 (by decide))]
          obtain ⟨M2, e2, nr⟩ := c_addM (w := i) (M := M1) (u := u) hW h00 (hC.f hW (u := 0) re1.yf) l6 (by rw [re1.1 322 (by omega)]; exact hU) (by omega)
          rw [e2]
          rcases y_part0 hw hW h00 ho hI' hL hT hLo hu s40 (fun j e => by rw [wi] at e; obtain rfl := Option.some.inj e; exact l6) with ⟨_, nf', _⟩ | ⟨j, _, wi', k0⟩ | ⟨wi', _⟩
          · have := (y_nfb nf').1; exact absurd this n2
          · rw [wi] at wi'
            obtain rfl := Option.some.inj wi'
            exact ⟨(1, M2), rfl, re1.yf.tr nr.2.2.f, Or.inl ⟨rfl, _, trivial, k0 M1 M2 (by omega) d1 sf1 nr⟩⟩
          · rw [wi] at wi'; cases wi'
        · rw [if_neg (show ¬ nI i < 6 from nI_nlt (b := 6) (a := i) (by omega) (by omega))]
          obtain ⟨w, hw2, rfl⟩ : ∃ w, w < 2 ∧ i = 8 + w := ⟨i - 8, by omega, by omega⟩
          exact y_brk2 hw hW ho hS hI' hL hT hLo hu hw2 wi d1 re1 sf1
/-- all SUMs -/
theorem y_all (hw : z_wt n T) (hW : z_WB A nm P) (h00 : 0 < A 0 0) : ∀ j o k, o + j = 6 → y_CP T n oo A nm P (4 * j + 2 + k) o := by
  intro j
  induction j with
  | zero =>
    intro o k ho
    rw [show 4 * 0 + 2 + k = k + 2 by omega]
    exact y_part1 hw hW h00 (by omega) (fun q => by omega) (fun q => by omega)
  | succ j ih =>
    intro o k ho
    rw [show 4 * (j + 1) + 2 + k = (4 * j + 2 + k + 1 + 1) + 2 by omega]
    refine y_part1 hw hW h00 (by omega) (fun _ => y_sum hw hW (by omega) (y_prod hw hW (by omega) (ih (o + 1) k (by omega)))) (fun _ => ?_)
    rw [show 4 * j + 2 + k + 1 + 1 = 4 * j + 2 + (k + 2) by omega]
    exact ih (o + 1) (k + 2) (by omega)
theorem y_sums (hw : z_wt n T) (hW : z_WB A nm P) (h00 : 0 < A 0 0) (ho : o ≤ 6) : y_CS T n oo A nm P 40 o := by
  have := y_all (oo := oo) hw hW h00 (6 - o) o (36 - 4 * (6 - o)) (by omega)
  rw [show 4 * (6 - o) + 2 + (36 - 4 * (6 - o)) = 38 by omega] at this
  exact y_sum hw hW ho (y_prod hw hW ho this)
end
