/-! ===== pure: teach, both ===== -/
section
variable {T : Nat → Nat} {n o hn d c : Nat} {A : ZA} {nm : Nat → Nat → Nat} {P : ZP} {G : Nat → ZP} {M N M1 N1 M' N' : SM} {B : Nat → Nat}
theorem m_told95 (hd : d < 8) (hc : c ≤ 60) (h44 : N.1 366 44 = nI c) (h6 : ∀ k, k < c → N.1 397 k = nI (B k)) :
    z_ok (lp_Mo_teach_95 366 (nI d) jfuel 0 N) (fun N' => z_Fr (fun i => i ≠ 391) N N' ∧ (∀ k, k < c → N'.1 391 (488 + 61 * d + 1 + k) = nI (B k)) ∧ ∀ j, (j < 488 + 61 * d + 1 ∨ 488 + 61 * d + 1 + c ≤ j) → N'.1 391 j = N.1 391 j) := by
  rw [zl_0]
  refine z_loop (fun f k N' => lp_Mo_teach_95 366 (nI d) f k N') (fun j N' => z_Fr (fun i => i ≠ 391) N N' ∧ (∀ k, k < j → N'.1 391 (488 + 61 * d + 1 + k) = nI (B k)) ∧ ∀ q, (q < 488 + 61 * d + 1 ∨ 488 + 61 * d + 1 + j ≤ q) → N'.1 391 q = N.1 391 q) _ c ?_ ?_ jfuel 0 N (Nat.zero_le _) (by rw [z_jf]; omega) ⟨z_Fr.rf, fun k h => by omega, fun _ _ => rfl⟩
  · intro f j N' hj hI k
    show z_ok (lp_Mo_teach_95 _ _ _ _ _) _
    have e44 : N'.1 366 44 = nI c := by rw [hI.1.1 366 (by decide)]; exact h44
    rw [lp_Mo_teach_95, e44, if_pos (nI_lt hj (by omega)), jm_43, jm_36, zi_397 _ (by omega), hI.1.1 397 (by decide), h6 j hj]
    simp only [Option.bind_some]
    rw [show (61 : Int32) = nI 61 from rfl, z_mul, zl_488, z_add, nI_1, z_add, zs_391 _ (by omega)]
    simp only [Option.bind_some]
    rw [nI_1]
    refine k _ ⟨hI.1.sI (by decide), fun q hq => ?_, fun q hq => ?_⟩
    · by_cases e : q = j
      · subst e; exact z_sIs _ _ _ _
      · rw [z_sIk _ _ _ _ (by omega)]; exact hI.2.1 q (by omega)
    · rw [z_sIk _ _ _ _ (by omega)]; exact hI.2.2 q (by omega)
  · intro f N' hI
    show z_ok (lp_Mo_teach_95 _ _ _ _ _) _
    have e44 : N'.1 366 44 = nI c := by rw [hI.1.1 366 (by decide)]; exact h44
    rw [lp_Mo_teach_95, e44, if_neg (nI_nlt (Nat.le_refl _) (by omega))]
    exact z_some hI
/-- a PART alone, both -/
theorem g_partAlone (hw : z_wt n T) (h : z_BT T n 0 M N) (hK : z_KW N) :
    z2 ((f_Pr_part 40 5 0 (sI M 5 2 0)).bind fun q4 => (if q4.1 = 0 then (some (0, q4.2)) else ((f_Re_ended 3 q4.2).bind fun q7 => if q7.1 = 0 then (some (0, q7.2)) else (some (1, q7.2))) : Option (Int32 × SM)))
      ((f_Mo_partTold 366 N).bind fun q4 => (if (q4.1 366 5) = 0 then ((f_Mo_look 366 q4).bind fun q7 => if q7.1 = (-1) then (some q7.2) else ((f_Mo_fail 366 1 (q7.2.1 366 2) q7.2).bind fun q9 => some q9)) else (some q4) : Option (SM)))
      (fun r N' => z_PE M r.2 ∧ z_PX N N' ∧ ((r.1 = 1 ∧ z_SF M r.2 ∧ N'.1 366 5 = 0 ∧ N'.1 366 6 = -1 ∧ ∃ B c, 1 ≤ c ∧ c ≤ 60 ∧ z_B3 B c ∧ z_BC B c r.2 ∧ z_BM B c N') ∨ (r.1 = 0 ∧ z_FF r.2 N'))) := by
  obtain ⟨hm, hR, hT, a, hF⟩ := h
  obtain ⟨⟨v, M1⟩, N1, e1, e2, x1, x2, h3⟩ := z_part0 hw hm hR hT hF hK.kt
  dsimp only at x1 h3
  refine z2_l e1 (z2_r e2 ?_)
  dsimp only
  rcases h3 with ⟨v1, b', B, c, m', ng, ⟨pR, pT, pB⟩, c1, c60, b3, sf, alt⟩ | ⟨v0, f, p, cf, f0, f9, mf⟩
  · have v1 : v = 1 := v1
    have pR : z_RD T n b' M1 := pR
    have pB : z_BC B c M1 := pB
    have sf : z_SF M M1 := sf
    rw [v1]
    refine z2_ln z_10 ?_
    obtain ⟨⟨w, M2⟩, e3, x3, h4⟩ := c_ended m'.1 pR
    dsimp only at x3 h4
    refine z2_l e3 ?_
    dsimp only
    rcases alt with ⟨a', rf, bm, nl⟩ | ⟨mf, so⟩
    · refine z2_rp rf.2.2.2.2.2.1 ?_
      obtain ⟨⟨u, N2⟩, e4, uq, r4, x4⟩ := m_look hw m'.1 rf
      have uq : u = if z_sk T n b' < n then nI (T (z_sk T n b')) else -1 := uq
      have r4 : z_RF T n b' (z_sk T n b') N2 := r4
      have x4 : z_LX N1 N2 := x4
      have lk := z_lk (T := T) (b := b') hw m'.1
      rw [← uq] at lk
      refine z2_r e4 ?_
      dsimp only
      rcases h4 with ⟨s0, e5⟩ | ⟨s0, w0, cf⟩
      · have e5 : w = 1 ∧ M2 = M1 := ⟨congrArg Prod.fst e5, congrArg Prod.snd e5⟩
        obtain ⟨rfl, rfl⟩ := e5
        refine z2_ln z_10 (z2_rp (lk.mpr s0) (z2_some ⟨x1, x2.tr x4.px, Or.inl ⟨rfl, sf, r4.2.2.2.2.2.1, r4.2.2.2.2.2.2.1, B, c, c1, c60, b3, pB, bm.lx x4⟩⟩))
      · rw [w0]
        refine z2_lp rfl (z2_rn (fun e => s0 (lk.mp e)) ?_)
        rw [r4.1]
        refine z2_r (m_fail (f := 1) r4.2.2.2.2.2.1) (z2_some ⟨x1.tr x3.pe, x2.tr x4.f.px, Or.inr ⟨rfl, 1, _, cf, by decide, by decide, z_MF.mk 1 _⟩⟩)
    · have bad : N1.1 366 5 ≠ 0 := mf.bad (by decide) (by decide)
      refine z2_rn bad ?_
      rcases h4 with ⟨s0, _⟩ | ⟨s0, w0, cf⟩
      · omega
      · rw [w0]
        exact z2_lp rfl (z2_some ⟨x1.tr x3.pe, x2, Or.inr ⟨rfl, 1, _, cf, by decide, by decide, mf⟩⟩)
  · have v0 : v = 0 := v0
    have bad : N1.1 366 5 ≠ 0 := mf.bad f0 f9
    rw [v0]
    exact z2_lp rfl (z2_rn bad (z2_some ⟨x1, x2, Or.inr ⟨rfl, f, p, cf, f0, f9, mf⟩⟩))
theorem z_Pd_s {e : Nat} (q : e ≠ d) : z_sa P (z_Pd P d c B) e := by
  refine ⟨?_, fun b => ?_⟩
  · show P.1 e = if e = d then c else P.1 e
    rw [if_neg q]
  · show (if 1 ≤ b ∧ b ≤ P.1 e then P.2 e b else 2) = if 1 ≤ b ∧ b ≤ (if e = d then c else P.1 e) then (if e = d then B (b - 1) else P.2 e b) else 2
    rw [if_neg q, if_neg q]
theorem z_MB.px (h : z_MB A nm P N) (x : z_PX N N') : z_MB A nm P N' := by
  obtain ⟨h1, h2, h3, h4, h5⟩ := h
  exact ⟨h1.fr (x.2 31 (by decide)) (fun i a b c => x.1.1 i (by omega)), h2.fr (x.1.1 391 (by decide)), fun q => (h3 q).fr (fun i a b => x.1.1 i (by omega)), ⟨(x.2 47 (by decide)).trans h4.1, (x.2 48 (by decide)).trans h4.2.1, (x.2 50 (by decide)).trans h4.2.2⟩, fun i w hi hw => by rw [x.1.2]; exact h5 i w hi hw⟩
theorem g_teach (hK : z_K o A nm P G hn M N) (hw : z_wt n T) (h : z_tc n T M) (k : z_tm n T N) (hKW : z_KW N) (ff : M.1 3 5 = N.1 366 7 ∧ M.1 3 6 = N.1 366 8) (x : Int32) :
    ∃ v M' N' P' G' hn', f_Sp_teach 0 x M = some (v, M') ∧ f_Mo_teach 366 x N = some (v, N') ∧ z_K o A nm P' G' hn' M' N' ∧ z_tc 0 T M' ∧ z_tm 0 T N' ∧ z_Fr (fun i => i = 0 ∨ i = 2 ∨ 321 < i) M M' ∧
      (∀ i, i ≠ 366 → (i < 391 ∨ 404 < i) → N'.1 i = N.1 i) ∧ N'.2 = N.2 ∧ (∀ k, 64 < k → N'.1 366 k = N.1 366 k) ∧ M'.1 3 5 = N'.1 366 7 ∧ M'.1 3 6 = N'.1 366 8 := by
  obtain ⟨hW, hC, hM, hG0, hGW, hHC, hHR⟩ := hK
  have hd8 := hW.1.2.1
  have ho := hC.1
  unfold f_Sp_teach f_Mo_teach
  rw [c_isDesk hW hC, m_isDesk hW hM, jp_0_0, jp_0_1, jp_0_2, jp_0_5, jp_0_6, jp_0_7, jm_36]
  simp only [Option.bind_some]
  by_cases q : z_q x (A 0 3)
  · rw [z_b1 q, z_b1 q]
    obtain ⟨d, hd, rfl⟩ := z_q_of (by omega) q
    have h00 : 0 < A 0 0 := Nat.pos_of_ne_zero (fun e => by have := (hW.2.2.2.1 e).1; omega)
    obtain ⟨Mb, eb, rd, re, rb5, rb6⟩ := c_rbegin hw h
    cases e0 : f_Mo_starts 366 N with
    | none => unfold f_Mo_starts at e0; cases e0
    | some N0 =>
    obtain ⟨rf0, yq0, t0, s0⟩ := m_starts (T := T) k e0
    have x0 : z_Fr (fun i => i ≠ 366) N N0 := ⟨s0, by unfold f_Mo_starts at e0; rw [← Option.some.inj e0]; rfl⟩
    have B0 : z_BT T n 0 Mb N0 := ⟨z_mb0, rd, h.re re, 0, rf0⟩
    have K0 : z_KW N0 := hKW.fr (fun i i1 i2 i3 => s0 i (by omega))
    obtain ⟨⟨v, M1⟩, N1, e1, e2, p1, p2, h3⟩ := g_partAlone hw B0 K0
    dsimp only at p1 h3
    rw [eb]
    simp only [Option.bind_some]
    rw [← Option.bind_assoc, ← Option.bind_assoc, e1, e2]
    simp only [Option.bind_some]
    have FC : z_Fr (fun i => i ≠ 3 ∧ i ≠ 4 ∧ i ≠ 5 ∧ i ≠ 6) M M1 := (re.wk (fun i q => ⟨q.1, q.2.1⟩)).tr p1
    have n1 : N1.1 366 1 = 0 := (p2.2 1 (by decide)).trans t0
    generalize hN2 : sI (sI N1 366 7 (N1.1 366 5)) 366 8 ((sI N1 366 7 (N1.1 366 5)).1 366 6) = N2
    have N2k : ∀ j, j ≠ 7 → j ≠ 8 → N2.1 366 j = N1.1 366 j := fun j a b => by rw [← hN2, z_sIk _ _ _ _ b, z_sIk _ _ _ _ a]
    have N2r : ∀ i, i ≠ 366 → N2.1 i = N1.1 i := fun i a => by rw [← hN2, z_sIa _ _ _ _ a, z_sIa _ _ _ _ a]
    have N27 : N2.1 366 7 = N1.1 366 5 := by rw [← hN2, z_sIk _ _ _ _ (by decide), z_sIs]
    have N28 : N2.1 366 8 = N1.1 366 6 := by rw [← hN2, z_sIs, z_sIk _ _ _ _ (by decide)]
    have N22 : N2.2 = N1.2 := by rw [← hN2]; rfl
    have FN : ∀ i, i ≠ 366 → i ≠ 397 → i ≠ 398 → N2.1 i = N.1 i := fun i a b c => by rw [N2r i a, p2.1.1 i ⟨a, b, c⟩, s0 i a]
    have FN2 : N2.2 = N.2 := by rw [N22, p2.1.2, x0.2]
    have FNk : ∀ j, (j = 31 ∨ 46 < j) → N2.1 366 j = N.1 366 j := fun j hj => by
      rw [N2k j (by omega) (by omega), p2.2 j (by omega)]
      exact yq0.1 366 j (by unfold z_pk; omega) (by omega)
    have tm2 : z_tm 0 T N2 := ⟨(N2k 1 (by decide) (by decide)).trans n1, fun j hj => by omega⟩
    have hM2 : z_MB A nm P N2 := by
      obtain ⟨h1, h2, h3', h4, h5⟩ := hM
      exact ⟨h1.fr (FNk 31 (Or.inl rfl)) (fun i a b c => FN i (by omega) (by omega) (by omega)), h2.fr (FN 391 (by decide) (by decide) (by decide)), fun q => (h3' q).fr (fun i a b => FN i (by omega) (by omega) (by omega)), ⟨(FNk 47 (by omega)).trans h4.1, (FNk 48 (by omega)).trans h4.2.1, (FNk 50 (by omega)).trans h4.2.2⟩, fun i w hi hw => by rw [FN2]; exact h5 i w hi hw⟩
    have hHR2 : z_HR (A 0 3) G hn N2 := hHR.fr (FNk 63 (by omega)) (FNk 64 (by omega)) (FN 404 (by decide) (by decide) (by decide))
    generalize hM1' : sI M1 1 1 0 = M2
    have FM : ∀ i, i ≠ 1 → i ≠ 3 → i ≠ 4 → i ≠ 5 → i ≠ 6 → M2.1 i = M.1 i := fun i a b c d e => by rw [← hM1', z_sIa _ _ _ _ a, FC.1 i ⟨b, c, d, e⟩]
    have FM2 : M2.2 = M.2 := by rw [← hM1']; exact FC.2
    have tc2 : z_tc 0 T M2 := ⟨by rw [← hM1']; exact z_sIs _ _ _ _, fun j hj => by omega⟩
    have M23 : M2.1 3 = M1.1 3 := by rw [← hM1', z_sIa _ _ _ _ (by decide)]
    have hC2 : z_CB o A nm P M2 := hC.kp hW (by rw [FM 0 (by decide) (by decide) (by decide) (by decide) (by decide)]) (fun i a b => FM i (by omega) (by omega) (by omega) (by omega) (by omega)) (fun i a b => FM i (by omega) (by omega) (by omega) (by omega) (by omega))
    have hHC2 : z_HC (A 0 3) G hn M2 := hHC.fr (fun i a b => FM i (by omega) (by omega) (by omega) (by omega) (by omega))
    rw [N2k 5 (by decide) (by decide)]
    rcases h3 with ⟨v1, S, n5, n6, B, c, c1, c60, b3, bc, bm⟩ | ⟨v0, FF⟩
    · have v1 : v = 1 := v1
      have S : z_SF Mb M1 := S
      have bc : z_BC B c M1 := bc
      rw [v1, if_neg z_10, if_pos n5]
      have hP' : z_WP (A 0 3) (z_Pd P d c B) := z_Pd_W hW.2.1 c60 b3 (fun e he => Or.inr he)
      have hW' : z_WB A nm (z_Pd P d c B) := hW.to hP'
      have h52 : M2.1 5 2 = nI c := by rw [← hM1', z_sIa _ _ _ _ (by decide), show c = min 1000 c by omega]; exact bc.1
      have h6 : ∀ k, k < c → M2.1 6 k = nI (B k) := fun k hk => by rw [← hM1', z_sIa _ _ _ _ (by decide)]; exact bc.2 k (by omega) hk
      have h44 : N2.1 366 44 = nI c := (N2k 44 (by decide) (by decide)).trans bm.1
      have h397 : ∀ k, k < c → N2.1 397 k = nI (B k) := fun k hk => by rw [N2r 397 (by decide)]; exact bm.2 k (by omega) hk
      -- the class
      obtain ⟨c1', c2', nx, c3, c4, c5⟩ := hHC2
      have sc : z_ok ((f_Ac_keep 108 (jpf (jop (M2.1 0 8)) 13) (nI d) M2).bind fun q10 => (f_Pa_setPart (jpf (jop (q10.1 0 8)) 13) (nI d) (jpf 5 1) (q10.1 5 2) q10).bind fun q11 => (f_Ru_playAll 132 (jop (q11.1 0 8)) 319 q11).bind fun q12 => some (q12.1 5 2, q12)) (fun r => r.1 = nI c ∧ z_CB o A nm (z_Pd P d c B) r.2 ∧ z_AK M2 r.2 ∧ z_HC (A 0 3) (z_ps (z_Pd P d c B) G) (min 20 (hn + 1)) r.2) := by
        rw [hC2.2.1, jo_13 ho, jp_5_1]
        refine z_bind (c_actK ho hd8 hW.2.1 hC2.2.2.2.1 hd c3 c1' c4 c2') (fun M3 h3 => ?_)
        have F1 := h3.1
        have hT1 : z_TC o (A 0 3) P M3 := hC2.2.2.2.1.fr hd8 (fun i a b => F1.1 i (by omega))
        rw [F1.1 0 (by omega), hC2.2.1, jo_13 ho, F1.1 5 (by omega), h52]
        refine z_bind (c_setPart (B := B) ho (by omega) c60 (fun k hk => by rw [F1.1 6 (by omega)]; exact h6 k hk)) (fun M4 h4 => ?_)
        obtain ⟨g1, g2, g3, g4⟩ := h4
        rw [g1.1 0 (by omega), F1.1 0 (by omega), hC2.2.1]
        have T4 : z_TC o (A 0 3) (z_Pd P d c B) M4 := fun e he => by
          by_cases qe : e = d
          · subst qe
            show M4.1 (o + 49) e = nI (if e = e then c else _) ∧ ∀ b, b < (if e = e then c else _) → M4.1 (o + 41 + e) b = nI (if e = e then B (b + 1 - 1) else _)
            rw [if_pos rfl]
            refine ⟨g2, fun b hb => ?_⟩
            rw [if_pos rfl]; exact g4 b hb
          · show M4.1 (o + 49) e = nI (if e = d then c else P.1 e) ∧ ∀ b, b < (if e = d then c else P.1 e) → M4.1 (o + 41 + e) b = nI (if e = d then B (b + 1 - 1) else P.2 e (b + 1))
            rw [if_neg qe, g3 e qe]
            refine ⟨(hT1 e he).1, fun b hb => ?_⟩
            rw [if_neg qe, g1.1 _ ⟨by omega, by omega⟩]; exact (hT1 e he).2 b hb
        have hCH : z_CH o A nm (z_Pd P d c B) M4 := hC2.ch.to hW (by rw [g1.1 0 (by omega), F1.1 0 (by omega)]) (fun i a b => by rw [g1.1 i (by omega), F1.1 i (by omega)]) T4
        refine z_bind (c_replay hW' h00 hCH) (fun M5 h5 => z_some ⟨?_, h5.1, ?_, ?_⟩)
        · rw [h5.2.1 5 (by omega), g1.1 5 (by omega), F1.1 5 (by omega)]; exact h52
        · exact ((F1.wk (fun i a => by omega)).tr (g1.wk (fun i a => by omega))).tr (h5.2.wk (fun i a => by omega))
        · exact z_HC.push (P' := z_Pd P d c B) c3 hd ⟨c1', c5⟩ (by rw [hG0]; exact h3) (fun i a b => by rw [h5.2.1 i (by omega), g1.1 i (by omega)]) (fun e _ q => by rw [hG0]; exact z_Pd_s q)
      -- the reference
      obtain ⟨m1, m2, nw, m3, m4, m5⟩ := hHR2
      have sm : z_ok ((f_Mo_keeps 366 N2).bind fun q11 => (aS q11 391 (488 + (61 * nI d)) (q11.1 366 44)).bind fun M12 => (lp_Mo_teach_95 366 (nI d) jfuel 0 M12).bind fun q16 => (f_Mo_plays 366 q16).bind fun q17 => some (q17.1 366 44, q17)) (fun r => r.1 = nI c ∧ z_MB A nm (z_Pd P d c B) r.2 ∧ z_BK N2 r.2 ∧ z_HR (A 0 3) (z_ps (z_Pd P d c B) G) (min 20 (hn + 1)) r.2) := by
        refine z_bind (m_keeps hd8 hW.2.1 hM2.2.1 m3 m1 m4 m2) (fun N3 h3 => ?_)
        obtain ⟨F1, s1, s2, s3, s4, s5⟩ := h3
        rw [show (61 : Int32) = nI 61 from rfl, z_mul, zl_488, z_add]
        have e44 : N3.1 366 44 = nI c := (s1 44 (by decide) (by decide)).trans h44
        rw [e44]
        refine z_eq (zs_391 _ (by omega)) ?_
        refine z_bind (m_told95 (B := B) (by omega) c60 (by rw [z_sIa _ _ _ _ (by decide)]; exact e44) (fun k hk => by rw [z_sIa _ _ _ _ (by decide), F1.1 397 (by decide)]; exact h397 k hk)) (fun N4 h4 => ?_)
        obtain ⟨g1, g2, g3⟩ := h4
        have F4 : z_Fr (fun i => i ≠ 391) N3 N4 := ⟨fun i hi => by rw [g1.1 i hi, z_sIa _ _ _ _ hi], g1.2⟩
        have B2 : z_BK N2 N4 := ⟨(F1.wk (fun i q => by omega)).tr (F4.wk (fun i q => by omega)), fun j hj => by rw [F4.1 366 (by decide)]; exact s1 j (by omega) (by omega)⟩
        have hT1 : z_TR (A 0 3) P N3 := hM2.2.1.fr (F1.1 391 (by decide))
        have T4 : z_TR (A 0 3) (z_Pd P d c B) N4 := fun e he => by
          have p60 := (hW.2.1 e he).1
          by_cases qe : e = d
          · subst qe
            show N4.1 391 (488 + 61 * e) = nI (if e = e then c else _) ∧ ∀ b, 1 ≤ b → b ≤ (if e = e then c else _) → N4.1 391 (488 + 61 * e + b) = nI (if e = e then B (b - 1) else _)
            rw [if_pos rfl]
            refine ⟨by rw [g3 _ (by omega), z_sIs], fun b c1 c2 => ?_⟩
            rw [if_pos rfl, show 488 + 61 * e + b = 488 + 61 * e + 1 + (b - 1) by omega]; exact g2 (b - 1) (by omega)
          · show N4.1 391 (488 + 61 * e) = nI (if e = d then c else P.1 e) ∧ ∀ b, 1 ≤ b → b ≤ (if e = d then c else P.1 e) → N4.1 391 (488 + 61 * e + b) = nI (if e = d then B (b - 1) else P.2 e b)
            have ne : ∀ b, b ≤ P.1 e → N4.1 391 (488 + 61 * e + b) = N3.1 391 (488 + 61 * e + b) := fun b hb => by
              rw [g3 _ (by omega), z_sIk _ _ _ _ (by omega)]
            rw [if_neg qe, show 488 + 61 * e = 488 + 61 * e + 0 by omega, ne 0 (by omega)]
            refine ⟨(hT1 e he).1, fun b c1 c2 => ?_⟩
            rw [if_neg qe]
            exact (ne b c2).trans ((hT1 e he).2 b c1 c2)
        have hMH : z_MH A nm (z_Pd P d c B) N4 := hM2.mh.to B2 T4
        refine z_bind (m_replay hW' h00 hMH) (fun N5 h5 => z_some ⟨?_, h5.1, B2.tr h5.2.bk, ?_⟩)
        · rw [h5.2.2 44 (by decide), F4.1 366 (by decide)]; exact e44
        · refine z_HR.push (P' := z_Pd P d c B) (N1 := N3) hd8 m3 hGW ⟨m1, m5⟩ s2 s3 (by rw [hG0]; exact s4) s5 ?_ ?_ ?_
          · rw [h5.2.2 63 (by decide), F4.1 366 (by decide)]
          · rw [h5.2.2 64 (by decide), F4.1 366 (by decide)]
          · rw [h5.2.1.1 404 (by decide), F4.1 404 (by decide)]
      obtain ⟨⟨cv, M'⟩, ec, u1, u2, u3, u4⟩ := sc
      obtain ⟨⟨mv, N'⟩, em, w1, w2, w3, w4⟩ := sm
      have u1 : cv = nI c := u1
      have w1 : mv = nI c := w1
      have u3 : z_AK M2 M' := u3
      have w3 : z_BK N2 N' := w3
      rw [← u1] at w1
      subst w1
      refine ⟨_, M', N', z_Pd P d c B, z_ps (z_Pd P d c B) G, min 20 (hn + 1), ec, em, ⟨hW', u2, w2, rfl, z_ps_W hGW hP', u4, w4⟩, ⟨by rw [u3.1 1 (by omega)]; exact tc2.1, fun j hj => by omega⟩, ⟨by rw [w3.2 1 (by decide)]; exact tm2.1, fun j hj => by omega⟩, ⟨fun i hi => ?_, ?_⟩, fun i a b => ?_, ?_, fun j hj => ?_, ?_, ?_⟩
      · rw [u3.1 i (by omega), FM i (by omega) (by omega) (by omega) (by omega) (by omega)]
      · rw [u3.2, FM2]
      · rw [w3.1.1 i (by omega), FN i a (by omega) (by omega)]
      · rw [w3.1.2, FN2]
      · rw [w3.2 j (by omega), FNk j (by omega)]
      · rw [u3.1 3 (by omega), M23, S.1, rb5, w3.2 7 (by decide), N27, n5]; rfl
      · rw [u3.1 3 (by omega), M23, S.2, rb6, w3.2 8 (by decide), N28, n6]
    · have v0 : v = 0 := v0
      rw [v0, if_pos rfl, if_neg FF.bad]
      obtain ⟨f, p, cf, _, _, mf⟩ := FF
      have cf : z_CF f p M1 := cf
      refine ⟨-1, M2, N2, P, G, hn, rfl, rfl, ⟨hW, hC2, hM2, hG0, hGW, hHC2, hHR2⟩, tc2, tm2, ⟨fun i hi => FM i (by omega) (by omega) (by omega) (by omega) (by omega), FM2⟩, fun i a b => FN i a (by omega) (by omega), FN2, fun j hj => FNk j (by omega), ?_, ?_⟩
      · rw [M23, N27, cf.1, mf.1]
      · rw [M23, N28, cf.2, mf.2]
  · rw [z_b0 q, z_b0 q]
    refine ⟨-1, sI M 1 1 0, sI N 366 1 0, P, G, hn, rfl, rfl, ⟨hW, hC.kp hW (by rw [z_sIa _ _ _ _ (by decide)]) (fun i a b => z_sIa _ _ _ _ (by omega)) (fun i a b => z_sIa _ _ _ _ (by omega)), ?_, hG0, hGW, hHC.fr (fun i a b => z_sIa _ _ _ _ (by omega)), hHR.fr (z_sIk _ _ _ _ (by decide)) (z_sIk _ _ _ _ (by decide)) (z_sIa _ _ _ _ (by decide))⟩, ⟨z_sIs _ _ _ _, fun j hj => by omega⟩, ⟨z_sIs _ _ _ _, fun j hj => by omega⟩, z_Fr.rf.sI (by omega), fun i a b => z_sIa _ _ _ _ a, rfl, fun j hj => z_sIk _ _ _ _ (by omega), ?_, ?_⟩
    · obtain ⟨h1, h2, h3, h4, h5⟩ := hM
      exact ⟨h1.fr (z_sIk _ _ _ _ (by decide)) (fun i a b c => z_sIa _ _ _ _ (by omega)), h2.fr (z_sIa _ _ _ _ (by decide)), fun q => (h3 q).fr (fun i a b => z_sIa _ _ _ _ (by omega)), ⟨(z_sIk _ _ _ _ (by decide)).trans h4.1, (z_sIk _ _ _ _ (by decide)).trans h4.2.1, (z_sIk _ _ _ _ (by decide)).trans h4.2.2⟩, fun i w hi hw => h5 i w hi hw⟩
    · rw [z_sIa _ _ _ _ (by decide), z_sIk _ _ _ _ (by decide)]; exact ff.1
    · rw [z_sIa _ _ _ _ (by decide), z_sIk _ _ _ _ (by decide)]; exact ff.2
end
