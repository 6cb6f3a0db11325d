/-! ===== pure: a STATEMENT, both ===== -/
section
variable {T : Nat → Nat} {n b R : Nat} {A : ZA} {nm nm' : Nat → Nat → Nat} {P P' : ZP} {M N M1 N1 N2 M' N' : SM} {B : Nat → Nat} {c d : Nat}
theorem g_dsk (hw : z_wt n T) (h : z_BT T n b M N) (hK : z_KW N) (hQ : z_QB R A nm P M N) (hf : A 0 3 < 8) {x : Nat} :
    z2 (f_Or_takeDesk 107 M) (f_Mo_deskTold 366 (nI x) N) (fun q N' => z_ST T n R A M N q.1 q.2 N') := by
  have hb := hQ.2.2.1.b rfl
  have hR := hQ.1
  have hm := hQ.2.2.1.many (i := 0) (by decide)
  unfold f_Or_takeDesk f_Mo_deskTold
  refine z2_r (m_full (i := 0) (room := 8) (by decide) (z_bt5 h) hm (by show A 0 3 ≤ 8; omega) (by decide)) ?_
  rw [if_neg (show ¬ A 0 (3 + 0) = 8 by show ¬ A 0 3 = 8; omega)]
  refine z2_rp rfl ?_
  rw [jm_28, jp_107_0, jp_107_1, jm_15, jm_16, jm_29, jm_35, jm_36]
  refine z2_r (zi_385 _ (k := 0) (by decide)) ?_
  have hf4 : A 0 (3 + 0) < 8 := hf
  refine z2_b (g_name hw h hK hQ (i := 0) (by decide) hf4) (fun q r hq => ?_)
  obtain ⟨r0, hq⟩ := hq
  rcases hq with ⟨q1, q2, q3, q4, f, f1, f2, f3⟩ | ⟨q1, q2, q3, q5⟩
  · rw [q1]
    refine z2_ln z_10 ?_
    have hQ1 := hQ.na (i := 0) (by decide) hf4 q4 r0
    have hK1 := hK.lx r0
    have C1 : z_YC R M q.2 := z_nyc (i := 0) hR (by decide) hf4 q4
    refine z2_b (g_ask hw q2 hK1 (p := (15, [97, 114, 109, 115])) (by decide) z_str_arms) (fun s N2 hs => ?_)
    obtain ⟨s0, t0, hs⟩ := hs
    rcases hs with ⟨s1, s2, s3⟩ | ⟨s1, s2, s5⟩
    · rw [s1]
      refine z2_ln z_10 ?_
      have hQ2 := hQ1.re s0 t0
      have hK2 := hK1.lx t0
      refine z2_b (g_num (lo := 1) (hi := 9) hw s2 (by decide) (by decide)) (fun p' r' hp => ?_)
      obtain ⟨p0, l0, hp⟩ := hp
      rcases hp with ⟨v, p1, p2, p3, p4, p5, p6, _⟩ | ⟨p1, p2, p5⟩
      · rw [p1]
        refine z2_ln (z_lt0n (by omega)) ?_
        have hQ3 := hQ2.re p0 l0
        have hK3 := hK2.lx l0
        refine z2_b (g_ask hw p5 hK3 (p := (16, [112, 108, 97, 121, 115])) (by decide) z_str_plays) (fun g N4 hg => ?_)
        obtain ⟨g0, y0, hg⟩ := hg
        rcases hg with ⟨g1, g2, g3⟩ | ⟨g1, g2, g5⟩
        · rw [g1]
          refine z2_ln z_10 ?_
          have hQ4 := hQ3.re g0 y0
          have hK4 := hK3.lx y0
          obtain ⟨bm, bR, bT, ba, bF⟩ := g2
          obtain ⟨⟨w, M5⟩, N5, ep, em, kE, kX, ke⟩ := z_part0 hw bm bR bT bF hK4.kt
          dsimp only at kE ke
          have hQ5 := hQ4.rd kE kX
          have C : z_YC R M M5 := ((C1.tr s0.yc).tr (p0.yc.tr g0.yc)).tr kE.yc
          have Y : z_YN N N5 := ((r0.yn.tr t0.yn).tr (l0.yn.tr y0.yn)).tr kX.yn
          have S4 : z_SF M g.2 := (q3.tr s3).tr (p6.tr g3)
          refine z2_l ep (z2_r em ?_)
          dsimp only
          rcases ke with ⟨w1, b', B, c, m', ng, pc, c1, c60, b3, sf, alt⟩ | ⟨w0, f, p, cf, f0, f9, mf⟩
          · have w1 : w = 1 := w1
            obtain ⟨pR, pT, pB1, pB2⟩ := pc
            have pR : z_RD T n b' M5 := pR
            have pT : z_tc n T M5 := pT
            have sf : z_SF g.2 M5 := sf
            have h52 : M5.1 5 2 = nI c := by rw [show c = min 1000 c by omega]; exact pB1
            have cnt : M5.1 R 4 = nI (A 0 3) := (hQ5.2.2.1 0 3 (by decide) (by decide) (show 3 < 7 by decide)).1
            rw [w1]
            refine z2_ln z_10 ?_
            obtain ⟨⟨w', M6⟩, e6, x1, x2⟩ := c_deskEnd (v := v) (B := B) hR hQ5.2.1 cnt hf c60 h52 (fun k hk => pB2 k (by omega) hk)
            have x1 : w' = 1 := x1
            subst x1
            dsimp only at x2
            refine (show z2 (Option.bind _ _) _ _ from ?_)
            obtain ⟨y1, y2, y3, y4, y5, y6⟩ := x2
            rcases alt with ⟨a', rf, bm2, nl⟩ | ⟨mf, so⟩
            · have N55 : N5.1 366 5 = 0 := rf.2.2.2.2.2.1
              have hm5 : N5.1 385 0 = nI (A 0 3) := hQ5.2.2.1.many (i := 0) (by decide)
              obtain ⟨N6, em6, z⟩ := m_deskEnd (v := v) (E := r.1) (B := B) hm5 hf c60 bm2.1 (fun k hk => bm2.2 k (by omega) hk)
              have hm0 : N.1 385 0 = nI (A 0 3) := hm
              rw [hm0, p2]
              refine z2_rp N55 ⟨_, _, e6, em6, ?_⟩
              exact z_ST.desk (v := v) (k := A 0 3) (f := f) hQ5 ⟨m', pR, pT, a', rf⟩ C Y (S4.tr sf) rfl hf p4 c60 b3 f1 (fun j hj => by
                rw [kE.1 _ ⟨by omega, by omega, by omega, by omega⟩, g0.1 _ ⟨by omega, by omega⟩, p0.1 _ ⟨by omega, by omega⟩, s0.1 _ ⟨by omega, by omega⟩]
                have := f2 j hj
                rw [show R + 6 + (8 * 0 + A 0 (3 + 0)) = R + 6 + A 0 3 from by show R + 6 + (8 * 0 + A 0 3) = _; omega] at this
                exact this) f3 ⟨y1, y2, y3, y4, y5, y6⟩ z
            · have bad : N5.1 366 5 ≠ 0 := mf.bad (by decide) (by decide)
              refine z2_rn bad ⟨_, _, e6, rfl, ?_⟩
              have F1 : ∀ i, i < 7 → M6.1 i = M5.1 i := fun i hi => y1.1 i ⟨by omega, by omega, by omega, by omega⟩
              refine ⟨C.tr ⟨y1.wk (fun i q => ⟨by omega, by omega, by omega, by omega⟩), fun _ => ?_⟩, Y, Or.inr (Or.inr ⟨rfl, b', m', pR.fr (F1 3 (by decide)) (F1 4 (by decide)), pT.fr (F1 1 (by decide)) (F1 2 (by decide)), by omega, mf⟩)⟩
              rw [y2, z_sIk _ _ _ _ (by decide)]
          · have w0 : w = 0 := w0
            have cf : z_CF f p M5 := cf
            have F : z_FF M5 N5 := ⟨f, p, cf, f0, f9, mf⟩
            rw [w0]
            exact z2_lp rfl (z2_rn F.bad (z2_some (z_ST.ff C Y F)))
        · rw [g1]
          obtain ⟨N5, em, kX, k5, k6⟩ := b_part hw.1 g5 g2.bad
          have F := g2.to z_SF.rf k5 k6
          refine z2_lp rfl (z2_r em (z2_rn F.bad (z2_some (z_ST.ff ((C1.tr s0.yc).tr (p0.yc.tr g0.yc)) (((r0.yn.tr t0.yn).tr (l0.yn.tr y0.yn)).tr kX.yn) F))))
      · rw [p1]
        obtain ⟨N5, em, kX, k5, k6⟩ := b_part hw.1 p5 p2.bad
        have F := p2.to z_SF.rf k5 k6
        refine z2_lp z_m1 (z2_r (b_asks p2.bad) (z2_r em (z2_rn F.bad (z2_some (z_ST.ff ((C1.tr s0.yc).tr p0.yc) (((r0.yn.tr t0.yn).tr l0.yn).tr kX.yn) F)))))
    · rw [s1]
      obtain ⟨N5, em, kX, k5, k6⟩ := b_part hw.1 s5 s2.bad
      have F := s2.to z_SF.rf k5 k6
      refine z2_lp rfl (z2_r (b_num s2.bad) (z2_r (b_asks s2.bad) (z2_r em (z2_rn F.bad (z2_some (z_ST.ff (C1.tr s0.yc) ((r0.yn.tr t0.yn).tr kX.yn) F))))))
  · rw [q1]
    obtain ⟨N5, em, kX, k5, k6⟩ := b_part hw.1 q5 q2.bad
    have F := q2.to z_SF.rf k5 k6
    refine z2_lp rfl (z2_r (b_asks q2.bad) (z2_r (b_num q2.bad) (z2_r (b_asks q2.bad) (z2_r em (z2_rn F.bad (z2_some (z_ST.ff q3.yc (r0.yn.tr kX.yn) F)))))))
/-! which STATEMENT it is -/
def z_tk : List (Nat × (SM → Option SM)) → (SM → Option SM) → SM → Option SM
  | [], e, N => e N
  | p :: l, e, N => (f_Mo_takes 366 (jpf 366 p.1) N).bind fun q => if q.1 = 0 then z_tk l e q.2 else p.2 q.2
theorem m_tk (hw : z_wt n T) (hm : z_mb T n b) (e : SM → Option SM) : ∀ (ws : List (Nat × List Nat)) (ks : List (SM → Option SM)), (∀ p, p ∈ ws → p ∈ z_wl) → ks.length = ws.length → ∀ {a : Nat} {N : SM}, z_RF T n b a N → z_KW N →
    (∃ i k, z_ix T n b (ws.map (·.2)) = some i ∧ ks[i]? = some k ∧ (z_so T n b = 1 ∧ b < z_en T n b) ∧ ∃ N', z_tk ((ws.map (·.1)).zip ks) e N = k N' ∧ z_LX N N' ∧ z_RF T n (z_en T n b) (z_en T n b) N') ∨
    (z_ix T n b (ws.map (·.2)) = none ∧ ∃ N' a', z_tk ((ws.map (·.1)).zip ks) e N = e N' ∧ z_LX N N' ∧ z_RF T n b a' N' ∧ (a = z_sk T n b → a' = z_sk T n b))
  | [], [], _, _, a, N, h, _ => Or.inr ⟨rfl, N, a, rfl, z_LX.rf, h, id⟩
  | [], k :: ks, _, hl, _, _, _, _ => by cases hl
  | p :: ws, [], _, hl, _, _, _, _ => by cases hl
  | p :: ws, k :: ks, hp, hl, a, N, h, hk => by
    have hpw := hp p List.mem_cons_self
    obtain ⟨s1, s2, s3, s4, _⟩ := z_wl_s p hpw
    obtain ⟨⟨v, N1⟩, e1, x1, c1⟩ := m_takes hw hm h s1 s2 (hk p hpw) s3 s4
    have x1 : z_LX N N1 := x1
    have et : z_tk (((p :: ws).map (·.1)).zip (k :: ks)) e N = if v = 0 then z_tk ((ws.map (·.1)).zip ks) e N1 else k N1 := by
      show ((f_Mo_takes 366 (jpf 366 p.1) N).bind fun q => if q.1 = 0 then z_tk ((ws.map (·.1)).zip ks) e q.2 else k q.2) = _
      rw [e1]; rfl
    rcases c1 with ⟨y, v1, r1⟩ | ⟨y, v0, r1⟩
    · have v1 : v = 1 := v1
      have r1 : z_RF T n (z_en T n b) (z_en T n b) N1 := r1
      have hs := z_so_lt hm.1 (show z_so T n b ≠ 0 by rw [y.1]; decide)
      have he := z_en_s (T := T) hm.1
      have hk' := z_sk_s (T := T) hm.1
      refine Or.inl ⟨0, k, ?_, rfl, ⟨y.1, Nat.lt_of_le_of_lt hk'.1 (he.2.2.1 hs)⟩, N1, ?_, x1, r1⟩
      · show (if z_is T n b p.2 then some 0 else _) = _
        rw [if_pos y]
      · rw [et, v1, if_neg z_10]
    · have v0 : v = 0 := v0
      have r1 : z_RF T n b (z_sk T n b) N1 := r1
      have ix : z_ix T n b ((p :: ws).map (·.2)) = (z_ix T n b (ws.map (·.2))).map (· + 1) := by
        show (if z_is T n b p.2 then some 0 else _) = _
        rw [if_neg y]
      rw [et, v0, if_pos rfl, ix]
      rcases m_tk hw hm e ws ks (fun p' h' => hp p' (List.mem_cons_of_mem _ h')) (Nat.succ.inj hl) r1 (hk.lx x1) with ⟨i, k', i1, i2, i3, N', i4, i5, i6⟩ | ⟨i1, N', a', i4, i5, i6, i7⟩
      · exact Or.inl ⟨i + 1, k', by rw [i1]; rfl, i2, i3, N', i4, x1.tr i5, i6⟩
      · exact Or.inr ⟨by rw [i1]; rfl, N', a', i4, x1.tr i5, i6, fun _ => i7 rfl⟩
theorem z_ix_app {w : List Nat} : ∀ (ws : List (List Nat)), z_ix T n b (ws ++ [w]) = match z_ix T n b ws with | some i => some i | none => if z_is T n b w then some ws.length else none
  | [] => by
    show (if z_is T n b w then some 0 else (none : Option Nat).map (· + 1)) = _
    split <;> rfl
  | v :: ws => by
    show (if z_is T n b v then some 0 else (z_ix T n b (ws ++ [w])).map (· + 1)) = match (if z_is T n b v then some 0 else (z_ix T n b ws).map (· + 1)) with | some i => some i | none => _
    by_cases h : z_is T n b v
    · rw [if_pos h, if_pos h]
    · rw [if_neg h, if_neg h, z_ix_app ws]
      cases z_ix T n b ws with
      | some i => rfl
      | none =>
        show (if z_is T n b w then some ws.length else none).map (· + 1) = if z_is T n b w then some (ws.length + 1) else none
        split <;> rfl
end
