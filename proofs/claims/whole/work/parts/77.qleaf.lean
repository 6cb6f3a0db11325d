/-! ===== pure: a part of a SUM, both ===== -/
theorem y_bnI {x : Nat} (h : x ≤ 1000000) : y_bn (nI x) := by
  unfold y_bn
  rw [nI_toInt (by omega)]
  omega
section
variable {T : Nat → Nat} {n b b' b1 oo u B o k : Nat} {A : ZA} {nm : Nat → Nat → Nat} {P : ZP} {Lk W0 W K : List Nat} {M N M' N' N1 N2 M1 M2 : SM}
theorem y_bpart (hW : z_WB A nm P) (h00 : 0 < A 0 0) {w i : Nat} (hi : i < 61) : y_bn (y_part (r_v A (z_pa P)) w i) := by
  have hs : ∀ k, (r_v A (z_pa P) i).2.2 k ≤ 75600 := fun k => Nat.le_trans (r_v_s hW.1 (hW.2.2.1 h00) k i) (by omega)
  unfold y_part
  split
  · exact y_bnI (by omega)
  · split
    · split
      · exact y_bnI (x := 0) (by decide)
      · exact y_bnI (by have := hs 4; omega)
    · exact y_bnI (by have := hs (w - 1); omega)
theorem y_blook (hW : z_WB A nm P) {w i : Nat} {x : Int32} : y_bn (y_look A (r_v A (z_pa P)) w x i) := by
  have hG := r_v_G (al := z_pa P) hW.1 i
  have h1 := hW.1.1
  have h2 := hW.1.2.2.2.1
  unfold y_look
  split
  · split
    · next q =>
      obtain ⟨c, hc, rfl⟩ := z_q_of (by omega) q
      rw [z_ci (by omega)]
      exact y_bnI (by have := hG.1 c hc; omega)
    · exact y_bnI (x := 0) (by decide)
  · split
    · next q =>
      obtain ⟨c, hc, rfl⟩ := z_q_of (by omega) q
      rw [z_ci (by omega)]
      exact y_bnI (by have := hG.2 c hc; omega)
    · exact y_bnI (x := 0) (by decide)
theorem y_bad.it {v : Int32} (hb : b ≤ n) (h5 : N.1 366 5 = 0) (e : y_it N = some (v, N1)) (x : y_X N N1) (cb : y_cb N1) (ff : z_FF M' N1) : y_bad n b N M' := by
  refine ⟨N1, ff, x, cb, fun g f h => ?_⟩
  obtain ⟨g', rfl⟩ : ∃ g', g = g' + 2 := ⟨g - 2, by unfold y_fu at h; omega⟩
  obtain ⟨f', rfl⟩ : ∃ f', f = f' + 1 := ⟨f - 1, by unfold y_fu at h; omega⟩
  exact y_A_bad h5 e ff.bad
theorem y_fuA (hb : b ≤ n) (h5 : N.1 366 5 = 0) (e : y_it N = some (1, N1)) (lt : b < b1) {g f : Nat} (h : y_fu n b g f) : ∃ g', y_fu n b1 g' f ∧ y_A g f N = y_A g' f N1 := by
  obtain ⟨g', rfl⟩ : ∃ g', g = g' + 1 := ⟨g - 1, by unfold y_fu at h; omega⟩
  exact ⟨g', h.up lt (Nat.le_refl _) (Nat.le_succ _), y_A_on h5 e⟩
theorem y_bad.on (hb : b ≤ n) (h5 : N.1 366 5 = 0) (e : y_it N = some (1, N1)) (lt : b < b1) (x : y_X N N1) (k : y_bad n b1 N1 M') : y_bad n b N M' := by
  obtain ⟨N2, ff, x2, cb, fu⟩ := k
  refine ⟨N2, ff, x.tr x2, cb, fun g f h => ?_⟩
  obtain ⟨g', h', e'⟩ := y_fuA hb h5 e lt h
  exact e'.trans (fu g' f h')
/-- a part of one piece -/
theorem y_leaf {x : Nat} {v : Nat → Int32} (hw : z_wt n T) (hI : y_I T n b oo A nm P u B o (Lk ++ W0) K M N) (e : y_it N = some (0, N1)) (x1 : y_X N N1) (e2 : y_PR N1 = some N2) (x2 : y_X N1 N2) (lt : b < z_en T n b) (r2 : z_RF T n (z_en T n b) (z_en T n b) N2) (y2 : y_M B (o - Lk.length) W0 (Lk.reverse ++ (x :: K)) N2)
    (d2 : z_RD T n (z_en T n b) M2) (sf : z_SF M M2) (nr : y_NR u v M2 M') (hv : ∀ i, i < 61 → y_bn (v i)) (hP : y_P A (r_v A (z_pa P)) [x] v) : y_ok (fun _ => False) T n b A (r_v A (z_pa P)) (o - Lk.length) B u W0 Lk.reverse K M N (z_en T n b) M' := by
  obtain ⟨hm, hD, hTc, hC, hU, ⟨a, hr⟩, hK, hy, hl⟩ := hI
  have hen := z_en_s (T := T) hm.1
  refine ⟨_, [], [x], v, _, N2, lt, hen.2.2.2, d2.yg nr.2.2, sf.tr nr.2.2.sf, nr.1, nr.2.1, hv, hP, (fun _ h => nomatch h), r2, y2, rfl, ?_, x1.tr x2, fun g f h => ?_⟩
  · simp only [List.length_append, List.length_reverse, List.length_cons, List.length_nil]
    omega
  · have hb := hm.1
    obtain ⟨g', rfl⟩ : ∃ g', g = g' + 2 := ⟨g - 2, by unfold y_fu at h; omega⟩
    exact ⟨jfuel, f, h.j hw lt (Nat.le_succ _), (y_A_out hr.2.2.2.2.2.1 e e2).trans (y_PS0 r2.2.2.2.2.2.1)⟩
theorem y_part0 (hw : z_wt n T) (hW : z_WB A nm P) (h00 : 0 < A 0 0) (ho : o ≤ 6) (hI : y_I T n b oo A nm P u B o (Lk ++ W0) K M N) (hL : ∀ x, x ∈ Lk → 60 ≤ x) (hT : y_tp B W0) (hLo : Lk.length ≤ o) (hu : u ≤ 3 * o + 5) (h40 : ¬ z_sg T n b 40) (h6 : ∀ i, y_wi T n b = some i → i < 6) :
    (∃ N', z_nf T n b 0 9999 = none ∧ ∀ v M2 M', v = (fun _ => nI (z_nv T (z_sk T n b) (z_en T n b - z_sk T n b))) → b < z_en T n b → z_RD T n (z_en T n b) M2 → z_SF M M2 → y_NR u v M2 M' → y_ok (fun _ => False) T n b A (r_v A (z_pa P)) (o - Lk.length) B u W0 Lk.reverse K M N (z_en T n b) M' ∧ N' = N) ∨
    (∃ i, i < 6 ∧ y_wi T n b = some i ∧ ∀ M2 M', b < z_en T n b → z_RD T n (z_en T n b) M2 → z_SF M M2 → y_NR u (y_part (r_v A (z_pa P)) i) M2 M' → y_ok (fun _ => False) T n b A (r_v A (z_pa P)) (o - Lk.length) B u W0 Lk.reverse K M N (z_en T n b) M') ∨
    (y_wi T n b = none ∧ ∃ f p, z_nf T n b 0 9999 = some (f, p) ∧ ∀ M', z_CF f p M' → y_bad n b N M') := by
  have hI' := hI
  obtain ⟨hm, hD, hTc, hC, hU, ⟨a, hr⟩, hK, hy, hl⟩ := hI
  have hn := hw.1
  have hb := hm.1
  have hen := z_en_s (T := T) hb
  have hL2 : Lk.length + W0.length + K.length ≤ b := by rw [List.length_append] at hl; exact hl
  obtain ⟨⟨vi, N1⟩, ei, X1, cb1, cs⟩ := y_it_s hw hm hr hK hy ho (by rw [List.length_append]; omega) (by omega)
  have X1 : y_X N N1 := X1
  have c8 : vi = 0 ∧ z_RF T n b (z_sk T n b) N1 ∧ y_M B o (Lk ++ W0) K N1 := by
    rcases cs with h | h | h | h | h | h | h | h
    · exact absurd h.1 h40
    · exact absurd h.1 h40
    · obtain ⟨w, w2, e, _⟩ := h; have := h6 _ e; omega
    · obtain ⟨w, w2, e, _⟩ := h; have := h6 _ e; omega
    · obtain ⟨w, w2, e, _⟩ := h; have := h6 _ e; omega
    · obtain ⟨w, w2, e, _⟩ := h; have := h6 _ e; omega
    · obtain ⟨w, w2, e, _⟩ := h; have := h6 _ e; omega
    · exact h.2.2
  obtain ⟨rfl, r1, y1⟩ := c8
  obtain ⟨N2, e2, X2, cs2⟩ := y_PR_s (o := o - Lk.length) hw hm r1 (hK.yx X1) (by rw [Nat.sub_add_cancel hLo]; exact y1) hL hT (by omega) h6
  rcases cs2 with ⟨i, i6, wi, r2, y2⟩ | ⟨nf, r2, y2⟩ | ⟨wi, f, p, nf, f0, mf, cb2⟩
  · exact Or.inr (Or.inl ⟨i, i6, wi, fun M2 M' lt d2 sf nr => y_leaf hw hI' ei X1 e2 X2 lt r2 y2 d2 sf nr (fun j hj => y_bpart hW h00 hj) (y_P.part i6)⟩)
  · have hv := (y_nfb nf).2.2
    refine Or.inl ⟨N, nf, fun v M2 M' ev lt d2 sf nr => ⟨?_, rfl⟩⟩
    subst ev
    exact y_leaf hw hI' ei X1 e2 X2 lt r2 y2 d2 sf nr (fun j hj => y_bnI (by omega)) (y_P.num hv)
  · refine Or.inr (Or.inr ⟨wi, f, p, nf, fun M' cf => ⟨N2, z_FF.mk1 cf mf f0 (y_nf9 nf), X1.tr X2, cb2, fun g f' h => ?_⟩⟩)
    obtain ⟨g', rfl⟩ : ∃ g', g = g' + 2 := ⟨g - 2, by unfold y_fu at h; omega⟩
    obtain ⟨f'', rfl⟩ : ∃ f'', f' = f'' + 1 := ⟨f' - 1, by unfold y_fu at h; omega⟩
    exact (y_A_out hr.2.2.2.2.2.1 ei e2).trans (y_PS1 (mf.bad f0 (y_nf9 nf)))
/-- ( -/
theorem y_brk1 (hw : z_wt n T) (hW : z_WB A nm P) (ho : o ≤ 6) (hS : o < 6 → y_CS T n oo A nm P k (o + 1)) (hI : y_I T n b oo A nm P u B o (Lk ++ W0) K M N) (hL : ∀ x, x ∈ Lk → 60 ≤ x) (hT : y_tp B W0) (hLo : Lk.length ≤ o) (hu : u ≤ 3 * o + 5) (h40 : z_sg T n b 40) :
    ∃ r, ((fb_Qu_bracket (fg_Qu_sum k) 322 (nI o) 0 M).bind fun q29 => if q29.1 = 0 then (some (0, q29.2)) else ((f_Re_takeSign (jpf 322 0) 41 q29.2).bind fun q31 => if q31.1 = 0 then (some (0, q31.2)) else (some (1, q31.2)))) = some r ∧ y_res (fun _ => False) (fun _ => True) T n b A (r_v A (z_pa P)) (o - Lk.length) B u W0 Lk.reverse K M N r := by
  have hI' := hI
  obtain ⟨hm, hD, hTc, hC, hU, ⟨a, hr⟩, hK, hy, hl⟩ := hI
  have hn := hw.1
  have hb := hm.1
  have hen := z_en_s (T := T) hb
  have hlt := hen.2.2.1 (z_so_3.mp h40.1).1
  have hsk := z_sk_s (T := T) hb
  have hbe : b < z_en T n b := by omega
  have hL2 : Lk.length + W0.length + K.length ≤ b := by rw [List.length_append] at hl; exact hl
  obtain ⟨⟨vi, N1⟩, ei, X1, cb1, cs⟩ := y_it_s hw hm hr hK hy ho (by rw [List.length_append]; omega) (by omega)
  have X1 : y_X N N1 := X1
  have c12 : (o < 6 ∧ vi = 1 ∧ z_RF T n (z_en T n b) (z_en T n b) N1 ∧ y_M B (o + 1) (20 :: (Lk ++ W0)) K N1) ∨ (o = 6 ∧ z_MF 4 (z_sk T n b) N1) := by
    have nw := y_sgw h40
    rcases cs with h | h | h | h | h | h | h | h
    · exact Or.inl h.2
    · exact Or.inr h.2
    · obtain ⟨w, w2, e, _⟩ := h; rw [nw] at e; cases e
    · obtain ⟨w, w2, e, _⟩ := h; rw [nw] at e; cases e
    · obtain ⟨w, w2, e, _⟩ := h; rw [nw] at e; cases e
    · obtain ⟨w, w2, e, _⟩ := h; rw [nw] at e; cases e
    · obtain ⟨w, w2, e, _⟩ := h; rw [nw] at e; cases e
    · exact absurd h40 h.1
  unfold fb_Qu_bracket
  rw [c_mayOpen hD]
  rcases c12 with ⟨o6, rfl, r1, y1⟩ | ⟨o6, mf⟩
  · rw [if_pos (show nI o < 6 from nI_lt (b := 6) o6 (by decide)), jp_322_0]
    simp only [Option.bind_some]
    rw [if_neg z_10]
    obtain ⟨M1, e1, d1, re1, sf1⟩ := c_next hw hTc hb hD
    rw [e1, nI_1]
    simp only [Option.bind_some]
    have hI1 : y_I T n (z_en T n b) oo A nm P u B (o + 1) (20 :: (Lk ++ W0)) K M1 N1 := hI'.to (w := 0) hW re1.yf hen.2.2.2 d1 (by rw [re1.1 322 (by omega)]; exact hU) X1 r1 y1 (by rw [List.length_cons, List.length_append]; omega)
    have hB : B ≤ (Lk ++ W0).length := by rw [List.length_append]; rcases hT with q | q <;> omega
    obtain ⟨⟨w2, M2⟩, e2, F2, h2⟩ := hS o6 (z_en T n b) B u (20 :: (Lk ++ W0)) K M1 N1 hI1 (Or.inr ⟨by rw [List.length_cons]; omega, y_nh.cons (by decide)⟩) (y_nh.cons (by unfold y_su; decide)) (by omega)
    have F2 : y_F u M1 M2 := F2
    rw [e2]
    simp only [Option.bind_some]
    rcases h2 with ⟨v2, b2, s2, h2⟩ | ⟨v2, h2⟩
    · have v2 : w2 = 1 := v2
      obtain ⟨a2, Q, D, v, K2, N2, lt, m2, d2, sf2, hU2, hR2, hb2, hY2, hQ2, r2, y2, eK, len, x2, fu⟩ := h2
      have d2 : z_RD T n b2 M2 := d2
      have bn2 := m2.1
      simp only [List.nil_append, List.length_nil, Nat.zero_add] at eK len
      rw [v2, if_neg z_10, if_pos trivial]
      simp only [Option.bind_some]
      rw [if_neg z_10]
      have tc2 : z_tc n T M2 := hTc.yf (re1.yf.tr F2)
      obtain ⟨⟨w3, M3⟩, e3, re3, h3⟩ := c_sign (c := 41) hw tc2 m2.1 d2 (by decide)
      have re3 : z_RE M2 M3 := re3
      have F3 : y_F u M M3 := (re1.yf.tr F2).tr re3.yf
      rw [show (41 : Int32) = nI 41 from rfl, e3]
      simp only [Option.bind_some]
      rcases h3 with ⟨s41, w31, d3, sf3⟩ | ⟨s41, w30, cf⟩
      · have w31 : w3 = 1 := w31
        have d3 : z_RD T n (z_en T n b2) M3 := d3
        have sf3 : z_SF M2 M3 := sf3
        have sf2 : z_SF M1 M2 := sf2
        have hU2 : M2.1 322 3 = nI (u + 1) := hU2
        have hen2 := z_en_s (T := T) m2.1
        have hlt2 := hen2.2.2.1 (z_so_3.mp s41.1).1
        have hsk2 := z_sk_s (T := T) m2.1
        obtain ⟨N3, eB, r3, y3, x3⟩ := y_B_close (o := o - Lk.length) (Or.inl rfl) hw m2 r2 s41 (by rw [Nat.sub_add_cancel hLo]; exact y2) hQ2 hL hT (by omega)
        rw [w31, if_neg z_10]
        refine ⟨(1, M3), rfl, F3, Or.inl ⟨rfl, z_en T n b2, trivial, _, [], D, v, _, N3, by omega, hen2.2.2.2, d3, (sf1.tr sf2).tr sf3, by rw [re3.1 322 (by omega)]; exact hU2, ?_, hb2, hY2, (fun _ h => nomatch h), r3, y3, ?_, ?_, (X1.tr x2).tr x3, fun g f h => ?_⟩⟩
        · exact fun i hi => by rw [re3.1 (324 + u) (by omega)]; exact hR2 i hi
        · rw [eK]; rfl
        · have : (D ++ K).length = Q.length + K2.length := by rw [← eK, List.length_append, List.length_reverse]
          rw [eK]
          show 0 + (Lk.reverse ++ ([] ++ (D ++ K))).length + b ≤ _
          rw [List.nil_append, List.length_append, this]
          omega
        · obtain ⟨g', h', e'⟩ := y_fuA hb hr.2.2.2.2.2.1 ei hbe h
          obtain ⟨g2, f2, h2', e2'⟩ := fu g' f h'
          obtain ⟨g3, rfl⟩ : ∃ g3, g2 = g3 + 1 := ⟨g2 - 1, by unfold y_fu at h2'; omega⟩
          exact ⟨g3, f2, h2'.up (by omega) (Nat.le_refl _) (Nat.le_succ _), (e'.trans e2').trans (eB g3 f2)⟩
      · have w30 : w3 = 0 := w30
        have cf : z_CF 1 (z_sk T n b2) M3 := cf
        obtain ⟨N3, eB, mf, cb3, x3⟩ := y_B_noClose (Or.inl rfl) hw m2 r2 s41 s2.1.1 s2.1.2 s2.2.1 s2.2.2 y2 hQ2 hB (by rw [List.length_append]; omega)
        rw [w30, if_pos rfl]
        refine ⟨(0, M3), rfl, F3, Or.inr ⟨rfl, N3, z_FF.mk1 cf mf (by decide) (by decide), (X1.tr x2).tr x3, cb3, fun g f h => ?_⟩⟩
        obtain ⟨g', h', e'⟩ := y_fuA hb hr.2.2.2.2.2.1 ei hbe h
        obtain ⟨g2, f2, h2', e2'⟩ := fu g' f h'
        obtain ⟨g3, rfl⟩ : ∃ g3, g2 = g3 + 1 := ⟨g2 - 1, by unfold y_fu at h2'; omega⟩
        obtain ⟨f3, rfl⟩ : ∃ f3, f2 = f3 + 1 := ⟨f2 - 1, by unfold y_fu at h2'; omega⟩
        exact (e'.trans e2').trans (eB g3 f3)
    · have v2 : w2 = 0 := v2
      rw [v2, if_pos rfl]
      exact ⟨(0, M2), rfl, re1.yf.tr F2, Or.inr ⟨rfl, y_bad.on hb hr.2.2.2.2.2.1 ei hbe X1 h2⟩⟩
  · subst o6
    rw [if_neg (by decide)]
    refine ⟨(0, _), rfl, (z_RE.rf.f.f : z_RE M _).yf, Or.inr ⟨rfl, y_bad.it hb hr.2.2.2.2.2.1 ei X1 cb1 (z_FF.mk1 (z_CF.mk 4 _) mf (by decide) (by decide))⟩⟩
/-- deep, boat -/
theorem y_lookU {w : Nat} (hw : z_wt n T) (hW : z_WB A nm P) (ho : o ≤ 6) (hS : o < 6 → y_CP T n oo A nm P k (o + 1)) (hI : y_I T n b oo A nm P u B o (Lk ++ W0) K M N) (hL : ∀ x, x ∈ Lk → 60 ≤ x) (hT : y_tp B W0) (hLo : Lk.length ≤ o) (hu : u ≤ 3 * o + 5) (hw2 : w < 2) (wi : y_wi T n b = some (6 + w)) :
    ∃ r, fb_Qu_lookUp (fg_Qu_sum k) 322 (nI (6 + w)) (nI o) M = some r ∧ y_res (fun _ => False) (fun _ => True) T n b A (r_v A (z_pa P)) (o - Lk.length) B u W0 Lk.reverse K M N r := by
  have hI' := hI
  obtain ⟨hm, hD, hTc, hC, hU, ⟨a, hr⟩, hK, hy, hl⟩ := hI
  have hn := hw.1
  have hb := hm.1
  have hen := z_en_s (T := T) hb
  have hlt := hen.2.2.1 (z_so_1 (y_wi_so wi)).1
  have hsk := z_sk_s (T := T) hb
  have hbe : b < z_en T n b := by omega
  have hL2 : Lk.length + W0.length + K.length ≤ b := by rw [List.length_append] at hl; exact hl
  obtain ⟨⟨vi, N1⟩, ei, X1, cb1, cs⟩ := y_it_s hw hm hr hK hy ho (by rw [List.length_append]; omega) (by omega)
  have X1 : y_X N N1 := X1
  have c12 : (o < 6 ∧ vi = 1 ∧ z_RF T n (z_en T n b) (z_en T n b) N1 ∧ y_M B (o + 1) ((60 + w) :: (Lk ++ W0)) K N1) ∨ (o = 6 ∧ z_MF 4 (z_sk T n b) N1) := by
    rcases cs with h | h | h | h | h | h | h | h
    · have := y_sgw h.1; rw [wi] at this; cases this
    · have := y_sgw h.1; rw [wi] at this; cases this
    · obtain ⟨w', w2, e, _⟩ := h; rw [wi] at e; have := Option.some.inj e; omega
    · obtain ⟨w', w2, e, _⟩ := h; rw [wi] at e; have := Option.some.inj e; omega
    · obtain ⟨w', w2, e, _⟩ := h; rw [wi] at e; have := Option.some.inj e; omega
    · obtain ⟨w', w2, e, h⟩ := h; exact Or.inr h
    · obtain ⟨w', w2, e, h⟩ := h
      rw [wi] at e
      have : w = w' := by have := Option.some.inj e; omega
      subst this
      exact Or.inl h
    · have := h.2.1 _ wi; omega
  unfold fb_Qu_lookUp
  rw [c_mayOpen hD]
  rcases c12 with ⟨o6, rfl, r1, y1⟩ | ⟨o6, mf⟩
  · rw [if_pos (show nI o < 6 from nI_lt (b := 6) o6 (by decide)), jp_322_0]
    simp only [Option.bind_some]
    rw [if_neg z_10]
    obtain ⟨M1, e1, d1, re1, sf1⟩ := c_next hw hTc hb hD
    rw [e1, nI_1]
    simp only [Option.bind_some]
    have hI1 : y_I T n (z_en T n b) oo A nm P u B (o + 1) (((60 + w) :: Lk) ++ W0) K M1 N1 := hI'.to (w := 0) hW re1.yf hen.2.2.2 d1 (by rw [re1.1 322 (by omega)]; exact hU) X1 r1 y1 (by rw [List.length_append, List.length_cons]; omega)
    obtain ⟨⟨w2, M2⟩, e2, F2, h2⟩ := hS o6 (z_en T n b) B u ((60 + w) :: Lk) W0 K M1 N1 hI1 (fun x hx => (List.mem_cons.mp hx).elim (fun e => by omega) (hL x)) hT (by rw [List.length_cons]; omega) (by omega)
    have F2 : y_F u M1 M2 := F2
    rw [e2]
    simp only [Option.bind_some]
    rcases h2 with ⟨v2, b2, s2, h2⟩ | ⟨v2, h2⟩
    · have v2 : w2 = 1 := v2
      obtain ⟨a2, Q, D, v, K2, N2, lt, m2, d2, sf2, hU2, hR2, hb2, hY2, hQ2, r2, y2, eK, len, x2, fu⟩ := h2
      have d2 : z_RD T n b2 M2 := d2
      have sf2 : z_SF M1 M2 := sf2
      obtain rfl := y_nil hQ2
      rw [v2, if_neg z_10]
      obtain ⟨M3, e3, nr⟩ := c_look (gf := fg_Qu_sum k) hW (hC.f hW (re1.yf.tr F2)) hw2 hU2 (by omega) hR2
      rw [e3]
      refine ⟨(1, M3), rfl, (re1.yf.tr F2).tr nr.2.2.f, Or.inl ⟨rfl, b2, trivial, a2, [], (60 + w) :: D, _, K2, N2, by omega, m2, d2.yg nr.2.2, (sf1.tr sf2).tr nr.2.2.sf, nr.1, nr.2.1, fun i _ => y_blook hW, y_P.look hw2 hY2, (fun _ h => nomatch h), r2, ?_, ?_, ?_, X1.tr x2, fun g f h => ?_⟩⟩
      · have : o + 1 - ((60 + w) :: Lk).length = o - Lk.length := by rw [List.length_cons]; omega
        rw [this] at y2; exact y2
      · rw [eK, List.reverse_cons, List.append_assoc]; rfl
      · simp only [List.length_nil, List.length_reverse, List.length_cons] at len ⊢
        omega
      · obtain ⟨g', h', e'⟩ := y_fuA hb hr.2.2.2.2.2.1 ei hbe h
        obtain ⟨g2, f2, h2', e2'⟩ := fu g' f h'
        exact ⟨g2, f2, h2', e'.trans e2'⟩
    · have v2 : w2 = 0 := v2
      rw [v2, if_pos rfl]
      exact ⟨(0, M2), rfl, re1.yf.tr F2, Or.inr ⟨rfl, y_bad.on hb hr.2.2.2.2.2.1 ei hbe X1 h2⟩⟩
  · subst o6
    rw [if_neg (by decide)]
    refine ⟨(0, _), rfl, (z_RE.rf.f.f : z_RE M _).yf, Or.inr ⟨rfl, y_bad.it hb hr.2.2.2.2.2.1 ei X1 cb1 (z_FF.mk1 (z_CF.mk 4 _) mf (by decide) (by decide))⟩⟩
end
