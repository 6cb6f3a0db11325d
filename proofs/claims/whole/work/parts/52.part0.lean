/-! ===== pure: a PART, whole ===== -/
def z_end0 (T : Nat → Nat) (n : Nat) (M N N' : SM) (r : Int32 × SM) : Prop :=
  (r.1 = 1 ∧ ∃ b' B c, z_mb T n b' ∧ ¬ z_gs T n b' ∧ z_PC1 T n b' B c r.2 ∧ 1 ≤ c ∧ c ≤ 60 ∧ z_B3 B c ∧ z_SF M r.2 ∧ ((∃ a', z_RF T n b' a' N' ∧ z_BM B c N' ∧ ¬ (z_sk T n b' < n ∧ z_le (T (z_sk T n b')))) ∨ (z_MF 1 (z_sk T n b') N' ∧ (z_so T n b' = 1 ∨ z_so T n b' = 4)))) ∨
  (r.1 = 0 ∧ ∃ f p, z_CF f p r.2 ∧ 0 < f ∧ f < 100 ∧ z_MF f p N')
section
variable {T : Nat → Nat} {n : Nat}
/-- the outermost group of the reference -/
theorem m_group0 {N Nq N1 : SM} {v : Int32} {a : Nat} (e1 : f_Mo_look 366 N = some (v, Nq)) (h2 : Nq.1 366 2 = nI a) (e2 : z_F1 jfuel (sI Nq 366 46 0) = some N1) : f_Mo_groupTold 366 N = if N1.1 366 5 = 0 then (if 60 < N1.1 366 44 then ((f_Mo_fail 366 5 (nI a) N1).bind fun q19 => some q19) else some N1) else some N1 := by
  unfold f_Mo_groupTold
  rw [e1]
  simp only [Option.bind_some]
  have e2 : lp_Mo_groupTold_17 366 jfuel 1 (sI Nq 366 46 0) = some N1 := e2
  rw [e2, h2]
  rfl
theorem z_F2_end {N : SM} (h5 : N.1 366 5 = 0) (h46 : N.1 366 46 = nI 0) (g f : Nat) : z_F2 (g + 1) (f + 1) N = some N := by
  unfold z_F2
  rw [lp_Mo_groupTold_48, if_pos h5, h46, if_neg (show ¬ (0 : Int32) < nI 0 by decide)]
  simp only [Option.bind_some]
  rw [h46, if_neg (show ¬ (0 : Int32) < nI 0 by decide)]
  simp only [Option.bind_some]
  rw [lp_Mo_groupTold_17, if_pos h5, if_pos (show (0 : Int32) = 0 from rfl)]
theorem z_RF.open0 {b a : Nat} {N : SM} (h : z_RF T n b a N) : z_RF T n b a (sI N 366 46 0) := by
  obtain ⟨r1, r2, r3, r4, r5, r6, r7, r8⟩ := h
  refine ⟨(z_sIk _ _ _ _ (by decide)).trans r1, r2, r3, (z_sIk _ _ _ _ (by decide)).trans r4, ?_, (z_sIk _ _ _ _ (by decide)).trans r6, (z_sIk _ _ _ _ (by decide)).trans r7, fun j hj => by rw [z_sIa _ _ _ _ (by decide)]; exact r8 j hj⟩
  unfold z_ed
  rw [z_sIk _ _ _ _ (by decide)]; exact r5
theorem z_open0 {b a c : Nat} {B : Nat → Nat} {N : SM} (h : z_RF T n b a N) (hB : z_BM B c N) : z_PM1 T n b a B c 0 (fun _ => 0) (sI N 366 46 0) :=
  ⟨h.open0, ⟨(z_sIk _ _ _ _ (by decide)).trans hB.1, fun i i1 i2 => by rw [z_sIa _ _ _ _ (by decide)]; exact hB.2 i i1 i2⟩, z_sIs _ _ _ _, fun j hj => by omega⟩
/-- where no group stands, the reference's next one is FAULT 1 -/
theorem m_group0_no (hw : z_wt n T) {b a c : Nat} {B : Nat → Nat} {N : SM} (hm : z_mb T n b) (h : z_RF T n b a N) (hB : z_BM B c N) (hc : c < 2 ^ 30) (hg : ¬ z_gs T n b) : ∃ N', f_Mo_groupTold 366 N = some N' ∧ z_MF 1 (z_sk T n b) N' ∧ z_PX N N' := by
  obtain ⟨⟨v, Nq⟩, eq, vq, rq, xq⟩ := m_look hw hm.1 h
  have hN1 := z_open0 rq (hB.lx xq)
  obtain ⟨N1, n1, n2, n3⟩ := z_F1_no hw hm hN1 hc hg
  refine ⟨N1, ?_, n1, (xq.px.s (Or.inr rfl)).tr n2⟩
  rw [m_group0 eq rq.1 (n3 1998), if_neg (n1.bad (by decide) (by decide))]
theorem z_loop0P (hw : z_wt n T) : ∀ j b a B c M N m m2 t, n - b ≤ j → z_mb T n b → z_PC1 T n b B c M → z_RF T n b a N → z_BM B c N → z_B3 B c → z_KT N → c ≤ 60 → z_gs T n b → t ≤ b → j < m → j + 1 < m2 →
    ∃ u r N', lp_Pr_part_17 (fg_Pr_part 39) 5 (nI 0) m (nI t) M = some u ∧ ((u = .inl r.2 ∧ r.1 = 1) ∨ (u = .inr (0, r.2) ∧ r.1 = 0)) ∧ lp_Mo_partTold_5 366 m2 N = some N' ∧ z_PE M r.2 ∧ z_PX N N' ∧ z_end0 T n M N N' r := by
  have hn := hw.1
  intro j
  induction j with
  | zero =>
    intro b a B c M N m m2 t h1 hm hC hR hB hB3 hKT hcb hg ht hjm hjm2
    have hs := z_sk_s (T := T) hm.1
    have := z_gs_lt hm.1 hg
    omega
  | succ j ih =>
    intro b a B c M N m m2 t h1 hm hC hR hB hB3 hKT hcb hg ht hjm hjm2
    have hs := z_sk_s (T := T) hm.1
    have hlt := z_gs_lt hm.1 hg
    obtain ⟨m, rfl⟩ : ∃ m', m = m' + 1 := ⟨m - 1, by omega⟩
    obtain ⟨m2, rfl⟩ : ∃ m', m2 = m' + 1 := ⟨m2 - 1, by omega⟩
    obtain ⟨⟨v, Nq⟩, eq, vq, rq, xq⟩ := m_look hw hm.1 hR
    have hN1 := z_open0 rq (hB.lx xq)
    have hx1 : z_PX N (sI Nq 366 46 0) := xq.px.s (Or.inr rfl)
    obtain ⟨⟨w, M1⟩, er, hE, hO⟩ := z_groups hw 5 0 28 (by decide) b (z_sk T n b) B c (fun _ => 0) M (sI Nq 366 46 0) hm hC hN1 hB3 (hKT.px hx1) (by omega) hg
    have er : (fg_Pr_part 39).2 5 (nI 0) M = some (w, M1) := er
    have hE : z_PE M M1 := hE
    have st1 : lp_Pr_part_17 (fg_Pr_part 39) 5 (nI 0) (m + 1) (nI t) M = if w = 0 then some (.inr (0, M1)) else if 60 < M1.1 5 2 then some (.inr (0, sI (sI M1 3 5 5) 3 6 (M.1 3 3))) else lp_Pr_part_17 (fg_Pr_part 39) 5 (nI 0) m (nI (t + 1)) M1 := by
      rw [lp_Pr_part_17, show (1600 : Int32) = nI 1600 from rfl, if_pos (nI_lt (by omega) (by decide)), c_gs hw hC.2.1 hm.1 hC.1, if_pos hg]
      simp only [Option.bind_some]
      rw [if_neg z_10, er, nI_1]
      simp only [Option.bind_some]
      rw [if_pos (show nI 0 = 0 from rfl), jp_5_0]
      rfl
    rw [st1]
    rcases hO with ⟨v1, b1, a1, B1, c1, N1, s, g, p1, p2, _, p3, p4, p5, p6, p7, p8, p9, p10, p11, p12⟩ | ⟨v0, f, p, N1, s, q1, q2, q3, q4, q5, q6, q7⟩
    · have v1 : w = 1 := v1
      have p3 : z_PC1 T n b1 B1 c1 M1 := p3
      have p6 : z_SF M M1 := p6
      rw [v1, if_neg z_10]
      obtain ⟨g, rfl⟩ : ∃ g', g = g' + 1 := ⟨g - 1, by omega⟩
      have hb1 := p2.1
      have h5 : N1.1 366 5 = 0 := p4.1.2.2.2.2.2.1
      have eF : z_F1 jfuel (sI Nq 366 46 0) = some N1 := by
        obtain ⟨f', hf'⟩ : ∃ f', jfuel = f' + 1 + s := ⟨2000 - 1 - s, by rw [z_jf]; omega⟩
        rw [hf', p12]
        exact z_F2_end h5 p4.2.2.1 g f'
      have eG := m_group0 eq rq.1 eF
      rw [if_pos h5, p4.2.1.1, show (60 : Int32) = nI 60 from rfl] at eG
      have hc1b : c1 ≤ 60 + b1 * 59049 := z_cb (o := 0) (by omega) (by omega) (Nat.le_of_lt p1) p9
      have hb15 : b1 * 59049 ≤ 1600 * 59049 := Nat.mul_le_mul_right _ (by omega)
      rw [p3.2.2.1, show (60 : Int32) = nI 60 from rfl]
      by_cases c60 : 60 < c1
      · -- too many BARS
        rw [if_pos (nI_lt (show 60 < min 1000 c1 by omega) (by omega))]
        rw [if_pos (nI_lt c60 (by omega)), show (5 : Int32) = nI 5 from rfl, m_fail h5] at eG
        have hMF := z_MF.mk (N := N1) 5 (z_sk T n b)
        refine ⟨_, (0, sI (sI M1 3 5 5) 3 6 (M.1 3 3)), sI (sI N1 366 5 (nI 5)) 366 6 (nI (z_sk T n b)), rfl, Or.inr ⟨rfl, rfl⟩, ?_, hE.tr z_RE.rf.f.f.pe, (hx1.tr p7).tr z_LX.rf.f.px, Or.inr ⟨rfl, 5, z_sk T n b, ⟨?_, ?_⟩, by decide, by decide, hMF⟩⟩
        · rw [lp_Mo_partTold_5, eG]
          simp only [Option.bind_some]
          rw [if_neg (hMF.bad (by decide) (by decide))]
        · rw [z_sIk _ _ _ _ (by decide), z_sIs]; rfl
        · rw [z_sIs]; exact hC.1.2.1
      · rw [if_neg (nI_nlt (show min 1000 c1 ≤ 60 by omega) (by decide))]
        rw [if_neg (nI_nlt (by omega) (by decide))] at eG
        have hs1 := z_sk_s (T := T) hb1
        -- what is next
        obtain ⟨⟨x, N2⟩, e2, x2, r2, l2⟩ := m_look hw hb1 p4.1
        obtain ⟨⟨y, N3⟩, e3, y3, r3, l3⟩ := m_look hw hb1 r2
        have x2 : x = if z_sk T n b1 < n then nI (T (z_sk T n b1)) else -1 := x2
        have y3 : y = if z_sk T n b1 < n then nI (T (z_sk T n b1)) else -1 := y3
        have stm : lp_Mo_partTold_5 366 (m2 + 1) N = if x = 40 then lp_Mo_partTold_5 366 m2 N2 else ((f_Mo_isLetter y).bind fun q6 => if q6 = 0 then some N3 else lp_Mo_partTold_5 366 m2 N3) := by
          rw [lp_Mo_partTold_5, eG]
          simp only [Option.bind_some]
          rw [if_pos h5, e2]
          simp only [Option.bind_some]
          rw [e3]
          rfl
        rw [stm]
        have x40 : x = 40 ↔ z_sg T n b1 40 := by
          rw [z_sg_q hb1 (by unfold z_al; omega)]
          by_cases c0 : z_sk T n b1 < n
          · have hT := hw.2 _ c0
            rw [x2, if_pos c0]
            exact ⟨fun q => ⟨c0, (nI_eq (b := 40) (by omega) (by decide)).mp q⟩, fun q => by rw [q.2]; rfl⟩
          · rw [x2, if_neg c0]
            exact ⟨fun q => absurd q (by decide), fun q => absurd q.1 c0⟩
        have yle : f_Mo_isLetter y = some (if z_sk T n b1 < n ∧ z_le (T (z_sk T n b1)) then 1 else 0) := by
          by_cases c0 : z_sk T n b1 < n
          · have hT := hw.2 _ c0
            rw [y3, if_pos c0, m_isLe (by omega)]
            by_cases c2 : z_le (T (z_sk T n b1))
            · rw [if_pos c2, if_pos ⟨c0, c2⟩]
            · rw [if_neg c2, if_neg (fun q => c2 q.2)]
          · rw [y3, if_neg c0, if_neg (fun q => c0 q.1)]; rfl
        by_cases hg1 : z_gs T n b1
        · -- one more
          have hlt1 := z_gs_lt hb1 hg1
          have fin : ∀ Nx, z_RF T n b1 (z_sk T n b1) Nx → z_LX N1 Nx → ∃ u r N', lp_Pr_part_17 (fg_Pr_part 39) 5 (nI 0) m (nI (t + 1)) M1 = some u ∧ ((u = .inl r.2 ∧ r.1 = 1) ∨ (u = .inr (0, r.2) ∧ r.1 = 0)) ∧ lp_Mo_partTold_5 366 m2 Nx = some N' ∧ z_PE M r.2 ∧ z_PX N N' ∧ z_end0 T n M N N' r := by
            intro Nx rx lx
            obtain ⟨u, r, N', g1, g2, g3, g4, g5, g6⟩ := ih b1 (z_sk T n b1) B1 c1 M1 Nx m m2 (t + 1) (by omega) p2 p3 rx (p4.2.1.lx lx) p5 (((hKT.px hx1).px p7).px lx.px) (by omega) hg1 (by omega) (by omega) (by omega)
            refine ⟨u, r, N', g1, g2, g3, hE.tr g4, ((hx1.tr p7).tr lx.px).tr g5, ?_⟩
            rcases g6 with ⟨h1, b', B', c', w1, w2, w3, w4, w5, w6, w7, w8⟩ | g6
            · exact Or.inl ⟨h1, b', B', c', w1, w2, w3, w4, w5, w6, ⟨w7.1.trans p6.1, w7.2.trans p6.2⟩, w8⟩
            · exact Or.inr g6
          by_cases c40 : z_sg T n b1 40
          · rw [if_pos (x40.mpr c40)]
            exact fin N2 r2 l2
          · rw [if_neg (fun q => c40 (x40.mp q)), yle]
            have hbw : z_bw T n b1 := by
              rcases hg1 with h | h
              · exact absurd h c40
              · exact h
            have hle := z_so_1 hbw.1
            rw [if_pos ⟨hle.1, hle.2.1⟩]
            simp only [Option.bind_some]
            rw [if_neg z_10]
            exact fin N3 r3 (l2.tr l3)
        · -- the end of the PART
          have c40 : ¬ z_sg T n b1 40 := fun q => hg1 (Or.inl q)
          rw [if_neg (fun q => c40 (x40.mp q)), yle]
          simp only [Option.bind_some]
          rw [z_if01]
          have eC : lp_Pr_part_17 (fg_Pr_part 39) 5 (nI 0) m (nI (t + 1)) M1 = some (.inl M1) := by
            obtain ⟨m, rfl⟩ : ∃ m', m = m' + 1 := ⟨m - 1, by omega⟩
            rw [lp_Pr_part_17]
            by_cases ct : t + 1 < 1600
            · rw [show (1600 : Int32) = nI 1600 from rfl, if_pos (nI_lt ct (by decide)), c_gs hw p3.2.1 hb1 p3.1, if_neg hg1]
              rfl
            · rw [show (1600 : Int32) = nI 1600 from rfl, if_neg (nI_nlt (by omega) (by omega))]
          by_cases cl : z_sk T n b1 < n ∧ z_le (T (z_sk T n b1))
          · rw [if_pos cl]
            obtain ⟨N4, g1, g2, g3⟩ := m_group0_no hw p2 r3 (p4.2.1.lx (l2.tr l3)) (by omega) hg1
            obtain ⟨m2, rfl⟩ : ∃ m', m2 = m' + 1 := ⟨m2 - 1, by omega⟩
            refine ⟨_, (1, M1), N4, eC, Or.inl ⟨rfl, rfl⟩, ?_, hE, ((hx1.tr p7).tr (l2.tr l3).px).tr g3, Or.inl ⟨rfl, b1, B1, c1, p2, hg1, p3, by omega, by omega, p5, p6, Or.inr ⟨g2, ?_⟩⟩⟩
            · rw [lp_Mo_partTold_5, g1]
              simp only [Option.bind_some]
              rw [if_neg (g2.bad (by decide) (by decide))]
            · unfold z_so
              rw [if_neg (by omega), if_pos cl.2]
              split
              · exact Or.inr rfl
              · exact Or.inl rfl
          · rw [if_neg cl]
            exact ⟨_, (1, M1), N3, eC, Or.inl ⟨rfl, rfl⟩, rfl, hE, (hx1.tr p7).tr (l2.tr l3).px, Or.inl ⟨rfl, b1, B1, c1, p2, hg1, p3, by omega, by omega, p5, p6, Or.inl ⟨z_sk T n b1, r3, p4.2.1.lx (l2.tr l3), cl⟩⟩⟩
    · have v0 : w = 0 := v0
      have q1 : z_CF f p M1 := q1
      rw [v0, if_pos rfl]
      have hb0 := q4.bad q2 q3
      have eF : z_F1 jfuel (sI Nq 366 46 0) = some N1 := by
        obtain ⟨f', hf'⟩ : ∃ f', jfuel = f' + 1 + s := ⟨2000 - 1 - s, by rw [z_jf]; omega⟩
        rw [hf', q7]
      have eG := m_group0 eq rq.1 eF
      rw [if_neg hb0] at eG
      refine ⟨_, (0, M1), N1, rfl, Or.inr ⟨rfl, rfl⟩, ?_, hE, hx1.tr q5, Or.inr ⟨rfl, f, p, q1, q2, q3, q4⟩⟩
      rw [lp_Mo_partTold_5, eG]
      simp only [Option.bind_some]
      rw [if_neg hb0]
/-- a PART, both -/
theorem z_part0 (hw : z_wt n T) {b a : Nat} {M N : SM} (hm : z_mb T n b) (hR : z_RD T n b M) (hT : z_tc n T M) (hN : z_RF T n b a N) (hKT : z_KT N) :
    ∃ r N', f_Pr_part 40 5 0 (sI M 5 2 0) = some r ∧ f_Mo_partTold 366 N = some N' ∧ z_PE M r.2 ∧ z_PX N N' ∧ z_end0 T n M N N' r := by
  have hn := hw.1
  have hb := hm.1
  have hR0 : z_RD T n b (sI M 5 2 0) := hR.fr (z_sIa _ _ _ _ (by decide)) (z_sIa _ _ _ _ (by decide))
  have hT0 : z_tc n T (sI M 5 2 0) := hT.fr (z_sIa _ _ _ _ (by decide)) (z_sIa _ _ _ _ (by decide))
  have hB0 : z_BC (fun _ => 0) 0 (sI M 5 2 0) := ⟨by rw [z_sIs]; rfl, fun k _ k2 => by omega⟩
  have hE0 : z_PE M (sI M 5 2 0) := z_Fr.rf.sI (by omega)
  have hS0 : z_SF M (sI M 5 2 0) := ⟨by rw [z_sIa _ _ _ _ (by decide)], by rw [z_sIa _ _ _ _ (by decide)]⟩
  have hN0 : z_RF T n b a (sI N 366 44 0) := by
    obtain ⟨r1, r2, r3, r4, r5, r6, r7, r8⟩ := hN
    refine ⟨(z_sIk _ _ _ _ (by decide)).trans r1, r2, r3, (z_sIk _ _ _ _ (by decide)).trans r4, ?_, (z_sIk _ _ _ _ (by decide)).trans r6, (z_sIk _ _ _ _ (by decide)).trans r7, fun j hj => by rw [z_sIa _ _ _ _ (by decide)]; exact r8 j hj⟩
    unfold z_ed
    rw [z_sIk _ _ _ _ (by decide)]; exact r5
  have hBM0 : z_BM (fun _ => 0) 0 (sI N 366 44 0) := ⟨by rw [z_sIs]; rfl, fun k _ k2 => by omega⟩
  have hX0 : z_PX N (sI N 366 44 0) := z_PX.rf.s (Or.inl rfl)
  unfold f_Pr_part
  show ∃ r N', fb_Pr_part (fg_Pr_part 39) 5 0 (sI M 5 2 0) = some r ∧ _
  unfold fb_Pr_part f_Mo_partTold
  rw [c_gs hw hT0 hb hR0]
  simp only [Option.bind_some]
  rw [z_if01]
  by_cases hg : z_gs T n b
  · rw [if_pos hg]
    obtain ⟨u, r, N', g1, g2, g3, g4, g5, g6⟩ := z_loop0P hw (n - b) b a (fun _ => 0) 0 (sI M 5 2 0) (sI N 366 44 0) jfuel jfuel 0 (Nat.le_refl _) hm ⟨hR0, hT0, hB0⟩ hN0 hBM0 (fun k _ k2 => by omega) (hKT.px hX0) (by omega) hg (Nat.zero_le _) (by rw [z_jf]; omega) (by rw [z_jf]; omega)
    rw [nI_0] at g1
    rw [g1, g3]
    refine ⟨r, N', ?_, rfl, hE0.tr g4, hX0.tr g5, ?_⟩
    · rcases g2 with ⟨rfl, h⟩ | ⟨rfl, h⟩
      · obtain ⟨r1, r2⟩ := r
        have h : r1 = 1 := h
        subst h; rfl
      · obtain ⟨r1, r2⟩ := r
        have h : r1 = 0 := h
        subst h; rfl
    · rcases g6 with ⟨h1, b', B', c', w1, w2, w3, w4, w5, w6, w7, w8⟩ | g6
      · exact Or.inl ⟨h1, b', B', c', w1, w2, w3, w4, w5, w6, ⟨w7.1.trans hS0.1, w7.2.trans hS0.2⟩, w8⟩
      · exact Or.inr g6
  · rw [if_neg hg]
    obtain ⟨N', g1, g2, g3⟩ := m_group0_no hw hm hN0 hBM0 (by decide) hg
    refine ⟨(0, sI (sI (sI M 5 2 0) 3 5 1) 3 6 ((sI M 5 2 0).1 3 3)), N', by rw [jp_5_0]; rfl, ?_, hE0.tr z_RE.rf.f.f.pe, hX0.tr g3, Or.inr ⟨rfl, 1, z_sk T n b, ⟨?_, ?_⟩, by decide, by decide, g2⟩⟩
    · show (lp_Mo_partTold_5 366 (1999 + 1) (sI N 366 44 0)).bind _ = _
      rw [lp_Mo_partTold_5, g1]
      simp only [Option.bind_some]
      rw [if_neg (g2.bad (by decide) (by decide))]
      rfl
    · rw [z_sIk _ _ _ _ (by decide), z_sIs]; rfl
    · rw [z_sIs]; exact hR0.2.1
end
