/-! ===== pure: a whole SUM, a comparison, both ===== -/
def y_end (T : Nat → Nat) (n b : Nat) (A : ZA) (F : Nat → ZS) (o B u : Nat) (W K : List Nat) (yv : Int32 → Prop) (M N : SM) (r : Int32 × SM) (N' : SM) : Prop :=
  y_F u M r.2 ∧ y_X N N' ∧
  ((r.1 = 1 ∧ ∃ b' a' D v, b < b' ∧ z_mb T n b' ∧ z_RD T n b' r.2 ∧ z_SF M r.2 ∧ r.2.1 322 3 = nI (u + 1) ∧ y_R u v r.2 ∧ (∀ i, i < 61 → yv (v i)) ∧ y_P A F D v ∧ z_RF T n b' a' N' ∧ y_M B o W (D ++ K) N' ∧ D.length + b ≤ b') ∨
   (r.1 = 0 ∧ z_FF r.2 N'))
section
variable {T : Nat → Nat} {n b b' b1 oo u B o k : Nat} {A : ZA} {nm : Nat → Nat → Nat} {P : ZP} {W K : List Nat} {M N M' N' N1 N2 M1 M2 : SM}
theorem y_M.base {B' : Nat} (h : y_M B o W K N) : y_M B' o W K (sI N 366 93 (nI B')) := by
  obtain ⟨h1, h2, h3, h4, h5, h6⟩ := h
  refine ⟨?_, h2.ia (by decide), ?_, h4.ia (by decide), z_sIs _ _ _ _, ?_⟩
  · rw [z_sIk _ _ _ _ (by decide)]; exact h1
  · rw [z_sIk _ _ _ _ (by decide)]; exact h3
  · rw [z_sIk _ _ _ _ (by decide)]; exact h6
theorem g_sum (hw : z_wt n T) (hW : z_WB A nm P) (h00 : 0 < A 0 0) (ho : o ≤ 6) (hI : y_I T n b oo A nm P u B o W K M N) (hN : y_nh y_su W) (hu : u ≤ 3 * o + 3) :
    ∃ r N', f_Qu_sum 40 322 (nI o) M = some r ∧ f_Mo_qSums 366 N = some N' ∧ y_cb N' ∧ y_end T n b A (r_v A (z_pa P)) o B u W K y_bn M N r N' := by
  have hn := hw.1
  have hI' := hI
  obtain ⟨hm, hD, hTc, hC, hU, ⟨a, hr⟩, hK, hy, hl⟩ := hI
  have hb := hm.1
  have yb : y_Y N (sI N 366 93 (nI W.length)) := y_Y.rf.s (by decide)
  have hy0 : y_M W.length o W K (sI N 366 93 (nI W.length)) := hy.base
  have hr0 := hr.y yb
  have hI0 : y_I T n b oo A nm P u W.length o W K M (sI N 366 93 (nI W.length)) := ⟨hm, hD, hTc, hC, hU, ⟨a, hr0⟩, hK.yx yb.yx, hy0, hl⟩
  obtain ⟨⟨v, M1⟩, e1, F1, h1⟩ := y_sums hw hW h00 ho b W.length u W K M _ hI0 (Or.inl rfl) hN hu
  have F1 : y_F u M M1 := F1
  have sums : ∀ {Na Nb : SM}, y_A jfuel 1999 (sI N 366 93 (nI W.length)) = some Na → lp_Mo_qSums_53 366 jfuel Na = some Nb → f_Mo_qSums 366 N = some (sI Nb 366 93 (N.1 366 93)) := fun {Na Nb} ea eb => by
    unfold f_Mo_qSums
    rw [hy.1]
    have : lp_Mo_qSums_15 366 jfuel 1 (sI N 366 93 (nI W.length)) = some Na := by
      rw [show jfuel = 1999 + 1 from rfl, y_A0 hr0.2.2.2.2.2.1]; exact ea
    rw [this]
    simp only [Option.bind_some]
    rw [eb]; rfl
  have fu0 : y_fu n b jfuel 1999 := by unfold y_fu; rw [z_jf]; omega
  rcases h1 with ⟨v1, b1, s1, a1, Q, D, vv, K1, N1, lt, m1, d1, sf, hU1, hR, hbn, hY, hQ, r1, y1, eK, len, x1, fu⟩ | ⟨v0, N1, ff, x1, cb, fu⟩
  · have v1 : v = 1 := v1
    simp only [List.nil_append, List.length_nil, Nat.zero_add] at eK len
    have eL : (D ++ K).length = Q.length + K1.length := by rw [← eK, List.length_append, List.length_reverse]
    rw [List.length_append] at eL
    have bn1 := m1.1
    obtain ⟨g', f', h', e'⟩ := fu _ _ fu0
    obtain ⟨g3, rfl⟩ : ∃ g3, g' = g3 + 1 := ⟨g' - 1, by unfold y_fu at h'; omega⟩
    obtain ⟨f3, rfl⟩ : ∃ f3, f' = f3 + 1 := ⟨f' - 1, by unfold y_fu at h'; omega⟩
    obtain ⟨N2, eB, r2, y2, x2⟩ := y_B_end hw m1 r1 s1.1.1 s1.1.2 s1.2.1 s1.2.2 y1 hQ rfl (by omega)
    obtain ⟨N3, e3, y3, x3⟩ := m_base (m := jfuel) rfl y2 r2.2.2.2.2.2.1 (by omega) (by rw [z_jf]; omega)
    rw [eK] at y3
    have yb3 : y_Y N3 (sI N3 366 93 (N.1 366 93)) := y_Y.rf.s (by decide)
    have y4 : y_M B o W (D ++ K) (sI N3 366 93 (N.1 366 93)) := by rw [hy.2.2.2.2.1]; exact y3.base
    refine ⟨(v, M1), _, e1, sums (e'.trans (eB g3 f3)) e3, y4.cb (by rw [List.length_append]; omega), F1, (((yb.yx.tr x1).tr x2).tr x3.yx).tr yb3.yx, Or.inl ⟨v1, b1, z_sk T n b1, D, vv, lt, m1, d1, sf, hU1, hR, hbn, hY, (r2.y x3).y yb3, y4, by omega⟩⟩
  · have v0 : v = 0 := v0
    have ea := fu _ _ fu0
    have eb : lp_Mo_qSums_53 366 jfuel N1 = some N1 := by
      rw [show jfuel = 1999 + 1 from rfl, lp_Mo_qSums_53, if_neg ff.bad]
    have yb3 : y_Y N1 (sI N1 366 93 (N.1 366 93)) := y_Y.rf.s (by decide)
    refine ⟨(v, M1), _, e1, sums ea eb, ?_, F1, (yb.yx.tr x1).tr yb3.yx, Or.inr ⟨v0, ?_⟩⟩
    · obtain ⟨j, hj, ej⟩ := cb
      exact ⟨j, hj, by rw [z_sIk _ _ _ _ (by decide)]; exact ej⟩
    · obtain ⟨f, p, c1, c2, c3, c4⟩ := ff
      exact ⟨f, p, c1, c2, c3, c4.y yb3⟩
theorem y_cs17 (hw : z_wt n T) (h : z_tc n T M) (hb : b ≤ n) (hD : z_RD T n b M) : f_Qu_signAmong 322 1017 M = some (if z_sg T n b 60 then nI 60 else if z_sg T n b 62 then nI 62 else if z_sg T n b 61 then nI 61 else 32) :=
  c_signs3 hw h hb hD (by decide +kernel) (by decide +kernel) (by decide +kernel) (by decide +kernel) (by decide) (by decide) (by decide)
def y_fr (q5 : Int32 × SM) (c : Int32) : Option SM := (f_Mo_qSums 366 (sI q5.2 366 2 ((q5.2.1 366 2) + 1))).bind fun q7 => (if c = 60 then (some 7) else (if c = 62 then (some 8) else (some 9)) : Option (Int32)).bind fun q8 => (f_Mo_qCode 366 q8 q7).bind fun q11 => some q11
theorem g_fact (hw : z_wt n T) (hW : z_WB A nm P) (h00 : 0 < A 0 0) (ho : o ≤ 6) (hI : y_I T n b oo A nm P u B o W K M N) (hN : y_nh y_su W) (hu : u ≤ 3 * o + 2) :
    ∃ r N', ((f_Re_isWord (jpf 322 0) 1013 M).bind fun q5 => if q5 = 0 then ((f_Qu_comparison 322 (nI o) M).bind fun q7 => (bchk q7.1).bind fun b8 => some (b8, q7.2)) else ((f_Re_step (jpf 322 0) M).bind fun q9 => (f_Qu_addNumber 322 1 q9).bind fun q10 => some ((1 : Int32), q10))) = some r ∧ f_Mo_qFact 366 N = some N' ∧ y_end T n b A (r_v A (z_pa P)) o B u W K y_01 M N r N' := by
  have hn := hw.1
  have hI' := hI
  obtain ⟨hm, hD, hTc, hC, hU, ⟨a, hr⟩, hK, hy, hl⟩ := hI
  have hb := hm.1
  have hen := z_en_s (T := T) hb
  have hsk := z_sk_s (T := T) hb
  obtain ⟨⟨v, N1⟩, e1, x1, k1⟩ := y_takes (p := (77, [97, 108, 108])) (by decide) hw hm hr hK
  have x1 : z_LX N N1 := x1
  have e1 : f_Mo_takes 366 (jpf 366 77) N = some (v, N1) := e1
  rw [jp_322_0, c_isWord (w := [97, 108, 108]) hw hb hD (by decide +kernel) (by decide) (by decide +kernel) (by decide)]
  unfold f_Mo_qFact
  rw [e1]
  simp only [Option.bind_some]
  rcases k1 with ⟨s, v1, r1⟩ | ⟨s, v0, r1⟩
  · have v1 : v = 1 := v1
    have r1 : z_RF T n (z_en T n b) (z_en T n b) N1 := r1
    have s : z_is T n b [97, 108, 108] := s
    have hlt := hen.2.2.1 (z_so_1 s.1).1
    rw [z_b1 s, v1, if_neg z_10]
    obtain ⟨M1, e2, d1, re1, sf1⟩ := c_next hw hTc hb hD
    obtain ⟨M2, e3, nr⟩ := c_addN (x := 1) (M := M1) (u := u) (by rw [re1.1 322 (by omega)]; exact hU) (by omega)
    rw [e2]
    simp only [Option.bind_some]
    rw [e3]
    obtain ⟨N2, e4, y2, x2⟩ := m_code (x := 13) (hy.lx x1) (by omega) (by decide)
    rw [show (13 : Int32) = nI 13 from rfl, e4]
    refine ⟨(1, M2), N2, rfl, rfl, re1.yf.tr nr.2.2.f, x1.yx.tr x2.yx, Or.inl ⟨rfl, z_en T n b, z_en T n b, [13], _, by omega, hen.2.2.2, d1.yg nr.2.2, sf1.tr nr.2.2.sf, nr.1, nr.2.1, fun _ _ => Or.inr rfl, y_P.all, r1.y x2, y2, by rw [List.length_cons, List.length_nil]; omega⟩⟩
  · have v0 : v = 0 := v0
    have s : ¬ z_is T n b [97, 108, 108] := s
    have r1 : z_RF T n b (z_sk T n b) N1 := r1
    rw [z_b0 s, v0, if_pos rfl]
    have hI1 : y_I T n b oo A nm P u B o W K M N1 := ⟨hm, hD, hTc, hC, hU, ⟨_, r1⟩, hK.lx x1, hy.lx x1, hl⟩
    obtain ⟨⟨w2, M2⟩, N2, e2, e3, cb2, F2, x2, h2⟩ := g_sum hw hW h00 ho hI1 hN (by omega)
    have F2 : y_F u M M2 := F2
    unfold f_Qu_comparison
    rw [e2, e3]
    simp only [Option.bind_some]
    rcases h2 with ⟨w21, b2, a2, D, vv, lt, m2, d2, sf2, hU2, hR2, hb2, hY2, r2, y2, len⟩ | ⟨w20, ff⟩
    · have w21 : w2 = 1 := w21
      have d2 : z_RD T n b2 M2 := d2
      have sf2 : z_SF M M2 := sf2
      have hU2 : M2.1 322 3 = nI (u + 1) := hU2
      have tc2 : z_tc n T M2 := hTc.yf F2
      have bn2 := m2.1
      rw [w21, if_neg z_10, if_pos r2.2.2.2.2.2.1]
      obtain ⟨⟨cv, N3⟩, e4, c3, r3, x3⟩ := m_look hw m2.1 r2
      have c3 : cv = _ := c3
      have r3 : z_RF T n b2 (z_sk T n b2) N3 := r3
      have x3 : z_LX N2 N3 := x3
      rw [e4, y_cs17 hw tc2 m2.1 d2]
      simp only [Option.bind_some]
      have lk : ∀ c, c = 60 ∨ c = 61 ∨ c = 62 → (cv = nI c ↔ z_sg T n b2 c) := fun c hc => by
        rw [c3]; exact m_lkS hw m2.1 (by unfold z_al; omega) (by omega)
      by_cases hs : ∃ c, (c = 60 ∨ c = 61 ∨ c = 62) ∧ z_sg T n b2 c
      · obtain ⟨c, hc, s2⟩ := hs
        have hen2 := z_en_s (T := T) m2.1
        have hlt2 := hen2.2.2.1 (z_so_3.mp s2.1).1
        have hsk2 := z_sk_s (T := T) m2.1
        have es : (if z_sg T n b2 60 then nI 60 else if z_sg T n b2 62 then nI 62 else if z_sg T n b2 61 then nI 61 else 32) = nI c := by
          rcases hc with rfl | rfl | rfl
          · rw [if_pos s2]
          · rw [if_neg (fun h => by have := y_sg1 s2 h; omega), if_neg (fun h => by have := y_sg1 s2 h; omega), if_pos s2]
          · rw [if_neg (fun h => by have := y_sg1 s2 h; omega), if_pos s2]
        have ev : cv = nI c := (lk c hc).mpr s2
        have er : (if cv = 60 then y_fr (cv, N3) cv else (if cv = 62 then y_fr (cv, N3) cv else (if cv = 61 then y_fr (cv, N3) cv else ((f_Mo_fail 366 1 (N3.1 366 2) N3).bind fun q24 => some q24)))) = y_fr (cv, N3) cv := by
          rw [ev]
          rcases hc with rfl | rfl | rfl
          · rw [if_pos (by decide)]
          · rw [if_neg (by decide), if_neg (by decide), if_pos (by decide)]
          · rw [if_neg (by decide), if_pos (by decide)]
        have c32 : ¬ nI c = 32 := by rcases hc with rfl | rfl | rfl <;> decide
        obtain ⟨M3, e5, d3, re3, sf3⟩ := c_next hw tc2 m2.1 d2
        have ra : z_RF T n (z_en T n b2) (z_en T n b2) (sI N3 366 2 (nI (z_sk T n b2 + 1))) := z_RF.sg (c := 0) m2 r3 s2.1
        have xa : z_LX N3 (sI N3 366 2 (nI (z_sk T n b2 + 1))) := z_LX.rf.s (Or.inl rfl)
        have hI3 : y_I T n (z_en T n b2) oo A nm P (u + 1) B o W (D ++ K) M3 (sI N3 366 2 (nI (z_sk T n b2 + 1))) := hI'.to (w := u) hW (F2.tr re3.yf) hen2.2.2.2 d3 (by rw [re3.1 322 (by omega)]; exact hU2) ((x1.yx.tr x2).tr (x3.tr xa).yx) ra ((y2.lx x3).lx xa) (by rw [List.length_append]; omega)
        obtain ⟨⟨w4, M4⟩, N4, e6, e7, cb4, F4, x4, h4⟩ := g_sum hw hW h00 ho hI3 hN (by omega)
        have F4 : y_F (u + 1) M3 M4 := F4
        have FF4 : y_F u M M4 := (F2.tr re3.yf).tr (F4.dn (by omega))
        have XX4 : y_X N N4 := ((x1.yx.tr x2).tr (x3.tr xa).yx).tr x4
        obtain ⟨x, ex, hx, eg⟩ : ∃ x, (if cv = 60 then (some 7) else (if cv = 62 then (some 8) else (some 9)) : Option (Int32)) = some (nI x) ∧ (7 ≤ x ∧ x ≤ 9) ∧ nI c = y_sg x := by
          rw [ev]
          rcases hc with rfl | rfl | rfl
          · exact ⟨7, by decide, by decide, by decide⟩
          · exact ⟨9, by decide, by decide, by decide⟩
          · exact ⟨8, by decide, by decide, by decide⟩
        have fr : y_fr (cv, N3) cv = (f_Mo_qCode 366 (nI x) N4).bind fun q11 => some q11 := by
          unfold y_fr
          dsimp only
          rw [r3.1, nI_1, e7]
          simp only [Option.bind_some]
          rw [ex]; rfl
        rw [es, if_neg c32, jp_322_0, e5]
        simp only [Option.bind_some]
        rw [e6]
        simp only [Option.bind_some]
        rcases h4 with ⟨w41, b4, a4, D4, v4, lt4, m4, d4, sf4, hU4, hR4, hb4, hY4, r4, y4, len4⟩ | ⟨w40, ff⟩
        · have w41 : w4 = 1 := w41
          have d4 : z_RD T n b4 M4 := d4
          have sf4 : z_SF M3 M4 := sf4
          have hU4 : M4.1 322 3 = nI (u + 1 + 1) := hU4
          have bn4 := m4.1
          have hc1 : ∀ i, i < 61 → (x = 10 ∨ x = 11) ∧ y_01 (vv i) ∧ y_01 (v4 i) ∨ (1 ≤ x ∧ x ≤ 9) ∧ y_bn (vv i) ∧ y_bn (v4 i) := fun i hi => Or.inr ⟨by omega, hb2 i hi, hb4 i hi⟩
          obtain ⟨M5, e8, U5, R5, G5⟩ := c_join (c := x) (u := u) hU4 (by omega) (hR2.f (re3.yf.tr F4) (Nat.lt_succ_self u)) hR4 hc1
          rw [w41, if_neg z_10, eg, e8]
          obtain ⟨N5, e9, y5, x5⟩ := m_code (x := x) y4 (by simp only [List.length_append]; omega) (by omega)
          simp only [Option.bind_some]
          rw [z_bchk (Or.inr rfl)]
          refine ⟨(1, M5), N5, rfl, ?_, FF4.tr G5.f, XX4.tr x5.yx, Or.inl ⟨rfl, b4, a4, x :: (D4 ++ D), _, by omega, m4, d4.yg G5, ((sf2.tr sf3).tr sf4).tr G5.sf, U5, R5, fun i hi => (y_j_s (hc1 i hi)).2.2.2 hx.1, y_P.join hY2 hY4 (Or.inr ⟨by omega, fun i hi => ⟨hb2 i hi, hb4 i hi⟩⟩), r4.y x5, ?_, ?_⟩⟩
          · refine er.trans ?_
            rw [fr, e9]; rfl
          · show y_M B o W (x :: (D4 ++ D ++ K)) N5
            rw [List.append_assoc]; exact y5
          · rw [List.length_cons, List.length_append]; omega
        · have w40 : w4 = 0 := w40
          have ff : z_FF M4 N4 := ff
          obtain ⟨j, hj, ej⟩ := cb4
          obtain ⟨N5, e9, x5, k5⟩ := m_codeB (v := nI x) ej (by omega)
          rw [w40, if_pos rfl]
          simp only [Option.bind_some]
          rw [z_bchk (Or.inl rfl)]
          refine ⟨(0, M4), N5, rfl, ?_, FF4, XX4.tr x5.yx, Or.inr ⟨rfl, ?_⟩⟩
          · refine er.trans ?_
            rw [fr, e9]; rfl
          · obtain ⟨f, p, c1, c2, c3, c4⟩ := ff
            exact ⟨f, p, c1, c2, c3, c4.y x5⟩
      · have s60 : ¬ z_sg T n b2 60 := fun h => hs ⟨60, Or.inl rfl, h⟩
        have s61 : ¬ z_sg T n b2 61 := fun h => hs ⟨61, Or.inr (Or.inl rfl), h⟩
        have s62 : ¬ z_sg T n b2 62 := fun h => hs ⟨62, Or.inr (Or.inr rfl), h⟩
        rw [if_neg s60, if_neg s62, if_neg s61, if_pos rfl, jp_322_0, c_refuse]
        simp only [Option.bind_some]
        rw [z_bchk (Or.inl rfl)]
        simp only [Option.bind_some]
        rw [z_bchk (Or.inl rfl), if_neg (fun (e : cv = 60) => s60 ((lk 60 (Or.inl rfl)).mp e)), if_neg (fun (e : cv = 62) => s62 ((lk 62 (Or.inr (Or.inr rfl))).mp e)), if_neg (fun (e : cv = 61) => s61 ((lk 61 (Or.inr (Or.inl rfl))).mp e)), r3.1, zl_1, m_fail r3.2.2.2.2.2.1]
        have mf := z_MF.mk (N := N3) 1 (z_sk T n b2)
        refine ⟨_, _, rfl, rfl, F2.tr (z_RE.rf.f.f : z_RE M2 _).yf, (x1.yx.tr x2).tr x3.f.yx, Or.inr ⟨rfl, z_FF.mk1 (f := 1) (p := z_sk T n b2) ?_ mf (by decide) (by decide)⟩⟩
        rw [d2.2.1]
        exact z_CF.mk 1 _
    · have w20 : w2 = 0 := w20
      have ff : z_FF M2 N2 := ff
      rw [w20, if_pos rfl]
      simp only [Option.bind_some]
      rw [z_bchk (Or.inl rfl), if_neg ff.bad]
      exact ⟨(0, M2), N2, rfl, rfl, F2, x1.yx.tr x2, Or.inr ⟨rfl, ff⟩⟩
end
