/-! ===== pure: groups and brackets, both ===== -/
/-- what came of it: both go on at b', or both have the same FAULT -/
def z_out (T : Nat → Nat) (n b o : Nat) (st : Nat → Nat) (c : Nat) (M N : SM) (end_ : Nat → Prop) (r : Int32 × SM) : Prop :=
  z_PE M r.2 ∧
  ((r.1 = 1 ∧ ∃ b' a' B' c' N' s g, b < b' ∧ z_mb T n b' ∧ end_ b' ∧ z_PC1 T n b' B' c' r.2 ∧ z_PM1 T n b' a' B' c' o st N' ∧ z_B3 B' c' ∧ z_SF M r.2 ∧ z_PX N N' ∧ c < c' ∧ c' ≤ c + (b' - b) * 9 ^ (5 - o) ∧ s ≤ b' - b ∧ 1995 + o ≤ g ∧ ∀ f, z_F1 (f + s) N = z_F2 g f N') ∨
   (r.1 = 0 ∧ ∃ f p N' s, z_CF f p r.2 ∧ 0 < f ∧ f < 100 ∧ z_MF f p N' ∧ z_PX N N' ∧ s ≤ n - b + 1 ∧ ∀ m, z_F1 (m + 1 + s) N = some N'))
section
variable {T : Nat → Nat} {n : Nat}
theorem z_tc.pe {M M' : SM} (h : z_tc n T M) (k : z_PE M M') : z_tc n T M' := h.fr (k.1 1 (by decide)) (k.1 2 (by decide))
theorem z_PM1.lx {b a a' : Nat} {B : Nat → Nat} {c o : Nat} {st : Nat → Nat} {N N' : SM} (h : z_PM1 T n b a B c o st N) (hR : z_RF T n b a' N') (k : z_LX N N') : z_PM1 T n b a' B c o st N' :=
  ⟨hR, h.2.1.lx k, (k.2 46 (by decide)).trans h.2.2.1, fun j hj => by rw [k.1.1 398 (by decide)]; exact h.2.2.2 j hj⟩
/-- the reference, where no group stands -/
theorem z_F1_no (hw : z_wt n T) {b a : Nat} {B : Nat → Nat} {c o : Nat} {st : Nat → Nat} {N : SM} (hm : z_mb T n b) (hN : z_PM1 T n b a B c o st N) (hc : c < 2 ^ 30) (hg : ¬ z_gs T n b) : ∃ N', z_MF 1 (z_sk T n b) N' ∧ z_PX N N' ∧ ∀ m, z_F1 (m + 1 + 1) N = some N' := by
  have hn := hw.1
  obtain ⟨⟨v, N1⟩, e1, v1, r1, x1⟩ := m_look hw hm.1 hN.1
  have v1 : v = _ := v1
  obtain ⟨N2, e2, x2, _, _, hh⟩ := m_letters2 hw hm r1 (hN.2.1.lx x1) hc
  have hM : z_MF 1 (z_sk T n b) N2 := by
    rcases hh with ⟨q, _⟩ | ⟨_, q⟩
    · exact absurd (Or.inr q) hg
    · exact q
  refine ⟨N2, hM, x1.px.tr x2, fun m => ?_⟩
  unfold z_F1
  rw [lp_Mo_groupTold_17, if_pos hN.1.2.2.2.2.2.1, if_neg z_10, e1]
  simp only [Option.bind_some]
  rw [if_neg (by
    intro (q : v = 40)
    apply hg
    left
    rw [z_sg_q hm.1 (by unfold z_al; omega)]
    by_cases c0 : z_sk T n b < n
    · have hT := hw.2 _ c0
      rw [v1, if_pos c0] at q
      exact ⟨c0, (nI_eq (b := 40) (by omega) (by decide)).mp q⟩
    · rw [v1, if_neg c0] at q; exact absurd q (by decide)), e2]
  exact z_F2_bad (hM.bad (by decide) (by decide)) 1999 m
/-- the reference goes on behind a group in a bracket -/
theorem z_F2_go (hw : z_wt n T) {b a : Nat} {B : Nat → Nat} {c o : Nat} {st : Nat → Nat} {N : SM} (hm : z_mb T n b) (hN : z_PM1 T n b a B c o st N) (ho : 1 ≤ o) (ho5 : o ≤ 5) (hg : ¬ z_sg T n b 41) : ∃ N', z_PM1 T n b (z_sk T n b) B c o st N' ∧ z_PX N N' ∧ ∀ g f, z_F2 (g + 1) f N = z_F1 f N' := by
  have hn := hw.1
  obtain ⟨⟨v, N1⟩, e1, v1, r1, x1⟩ := m_look hw hm.1 hN.1
  have v1 : v = _ := v1
  refine ⟨N1, hN.lx r1 x1, x1.px, fun g f => ?_⟩
  have e46 : N1.1 366 46 = nI o := (x1.2 46 (by decide)).trans hN.2.2.1
  unfold z_F2
  rw [lp_Mo_groupTold_48, if_pos hN.1.2.2.2.2.2.1, hN.2.2.1, if_pos (show (0 : Int32) < nI o from nI_lt (a := 0) (by omega) (by omega)), e1]
  simp only [Option.bind_some]
  rw [if_neg (by
    intro (q : v = 41)
    apply hg
    rw [z_sg_q hm.1 (by unfold z_al; omega)]
    by_cases c0 : z_sk T n b < n
    · have hT := hw.2 _ c0
      rw [v1, if_pos c0] at q
      exact ⟨c0, (nI_eq (b := 41) (by omega) (by decide)).mp q⟩
    · rw [v1, if_neg c0] at q; exact absurd q (by decide))]
  simp only [Option.bind_some]
  rw [e46, if_pos (show (0 : Int32) < nI o from nI_lt (a := 0) (by omega) (by omega))]
  rfl
theorem z_gs41 {b : Nat} (hg : z_gs T n b) : ¬ z_sg T n b 41 := by
  intro q
  rcases hg with h | h
  · have := h.2; have := q.2; omega
  · have := h.1; have := q.1; omega
theorem z_gs_lt {b : Nat} (hb : b ≤ n) (hg : z_gs T n b) : z_sk T n b < n := by
  rcases hg with h | h
  · exact (z_so_3.mp h.1).1
  · exact (z_so_1 h.1).1
/-- what is claimed of a group -/
def z_GC (T : Nat → Nat) (n k o : Nat) : Prop := ∀ b a B c st M N, z_mb T n b → z_PC1 T n b B c M → z_PM1 T n b a B c o st N → z_B3 B c → z_KT N → c ≤ 60 + b * 59049 → z_gs T n b → ∃ r, (fg_Pr_part k).2 5 (nI o) M = some r ∧ z_out T n b o st c M N (fun _ => True) r
/-- and of a PART in a bracket -/
def z_PC (T : Nat → Nat) (n k o : Nat) : Prop := ∀ b a B c st M N, z_mb T n b → z_PC1 T n b B c M → z_PM1 T n b a B c o st N → z_B3 B c → z_KT N → c ≤ 60 + b * 59049 → ∃ r, (fg_Pr_part k).1 5 (nI o) M = some r ∧ z_out T n b o st c M N (fun b' => ¬ z_gs T n b') r
theorem z_pow9 {o : Nat} (ho : o ≤ 5) : 1 ≤ 9 ^ (5 - o) ∧ 9 ^ (5 - o) ≤ 59049 := ⟨Nat.one_le_pow _ _ (by decide), Nat.le_trans (Nat.pow_le_pow_right (by decide) (by omega)) (show 9 ^ 5 ≤ 59049 by decide)⟩
theorem z_cb {b b' c c' o : Nat} (ho : o ≤ 5) (h : c ≤ 60 + b * 59049) (hb : b ≤ b') (h2 : c' ≤ c + (b' - b) * 9 ^ (5 - o)) : c' ≤ 60 + b' * 59049 := by
  have h3 : (b' - b) * 9 ^ (5 - o) ≤ (b' - b) * 59049 := Nat.mul_le_mul_left _ (z_pow9 ho).2
  have h4 : b' * 59049 = (b' - b) * 59049 + b * 59049 := by rw [← Nat.add_mul]; congr 1; omega
  omega
/-- groups side by side in a bracket -/
theorem z_loopP (hw : z_wt n T) {k o : Nat} (ho : 1 ≤ o) (ho5 : o ≤ 5) (hG : z_GC T n k o) : ∀ j b a B c st M N m t, n - b ≤ j → z_mb T n b → z_PC1 T n b B c M → z_PM1 T n b a B c o st N → z_B3 B c → z_KT N → c ≤ 60 + b * 59049 → z_gs T n b → t ≤ b → j < m →
    ∃ u, lp_Pr_part_17 (fg_Pr_part k) 5 (nI o) m (nI t) M = some u ∧ ((∃ M', u = .inl M' ∧ z_out T n b o st c M N (fun b' => ¬ z_gs T n b') (1, M')) ∨ (∃ M', u = .inr (0, M') ∧ z_out T n b o st c M N (fun b' => ¬ z_gs T n b') (0, M'))) := by
  have hn := hw.1
  intro j
  induction j with
  | zero =>
    intro b a B c st M N m t h1 hm hC hN hB3 hKT hcb hg ht hjm
    have hs := z_sk_s (T := T) hm.1
    have := z_gs_lt hm.1 hg
    omega
  | succ j ih =>
    intro b a B c st M N m t h1 hm hC hN hB3 hKT hcb hg ht hjm
    have hs := z_sk_s (T := T) hm.1
    have hlt := z_gs_lt hm.1 hg
    obtain ⟨m, rfl⟩ : ∃ m', m = m' + 1 := ⟨m - 1, by omega⟩
    obtain ⟨⟨v, M1⟩, er, hE, hO⟩ := hG b a B c st M N hm hC hN hB3 hKT hcb hg
    have hE : z_PE M M1 := hE
    have st1 : lp_Pr_part_17 (fg_Pr_part k) 5 (nI o) (m + 1) (nI t) M = if v = 0 then some (.inr (0, M1)) else lp_Pr_part_17 (fg_Pr_part k) 5 (nI o) m (nI (t + 1)) M1 := by
      rw [lp_Pr_part_17, show (1600 : Int32) = nI 1600 from rfl, if_pos (nI_lt (by omega) (by decide)), c_gs hw hC.2.1 hm.1 hC.1, if_pos hg]
      simp only [Option.bind_some]
      rw [if_neg z_10, er, nI_1]
      simp only [Option.bind_some]
      rw [if_neg (nI_ne0 (n := o) (by omega) (by omega))]
    rw [st1]
    rcases hO with ⟨v1, b1, a1, B1, c1, N1, s, g, p1, p2, _, p3, p4, p5, p6, p7, p8, p9, p10, p11, p12⟩ | ⟨v0, f, p, N1, s, q1, q2, q3, q4, q5, q6, q7⟩
    · have v1 : v = 1 := v1
      rw [v1, if_neg z_10]
      have p3 : z_PC1 T n b1 B1 c1 M1 := p3
      have p6 : z_SF M M1 := p6
      obtain ⟨g, rfl⟩ : ∃ g', g = g' + 1 := ⟨g - 1, by omega⟩
      have hcb1 := z_cb ho5 hcb (Nat.le_of_lt p1) p9
      by_cases hg1 : z_gs T n b1
      · obtain ⟨N2, n1, n2, n3⟩ := z_F2_go hw p2 p4 ho ho5 (z_gs41 hg1)
        have hs1 := z_sk_s (T := T) p2.1
        have hlt1 := z_gs_lt p2.1 hg1
        obtain ⟨u, eu, hu⟩ := ih b1 (z_sk T n b1) B1 c1 st M1 N2 m (t + 1) (by omega) p2 p3 n1 p5 ((hKT.px p7).px n2) hcb1 hg1 (by omega) (by omega)
        refine ⟨u, eu, ?_⟩
        rcases hu with ⟨M', rfl, hE', hO'⟩ | ⟨M', rfl, hE', hO'⟩
        · refine Or.inl ⟨M', rfl, hE.tr hE', ?_⟩
          rcases hO' with ⟨w1, b2, a2, B2, c2, N3, s2, g2, r1, r2, r3, r4, r5, r6, r7, r8, r9, r10, r11, r12, r13⟩ | ⟨w0, _⟩
          · have e9 : (b2 - b) * 9 ^ (5 - o) = (b2 - b1) * 9 ^ (5 - o) + (b1 - b) * 9 ^ (5 - o) := by rw [← Nat.add_mul]; congr 1; omega
            refine Or.inl ⟨rfl, b2, a2, B2, c2, N3, s2 + s, g2, by omega, r2, r3, r4, r5, r6, ⟨r7.1.trans p6.1, r7.2.trans p6.2⟩, (p7.tr n2).tr r8, by omega, by omega, by omega, r12, fun f => ?_⟩
            rw [← Nat.add_assoc, p12, n3, r13]
          · exact absurd (show (1 : Int32) = 0 from w0) z_10
        · refine Or.inr ⟨M', rfl, hE.tr hE', ?_⟩
          rcases hO' with ⟨w1, _⟩ | ⟨w0, f, p, N3, s2, r1, r2, r3, r4, r5, r6, r7⟩
          · exact absurd (show (0 : Int32) = 1 from w1) (by decide)
          · refine Or.inr ⟨rfl, f, p, N3, s2 + s, r1, r2, r3, r4, (p7.tr n2).tr r5, by omega, fun m => ?_⟩
            rw [← Nat.add_assoc, p12, n3, r7]
      · refine ⟨.inl M1, ?_, Or.inl ⟨M1, rfl, hE, Or.inl ⟨rfl, b1, a1, B1, c1, N1, s, g + 1, p1, p2, hg1, p3, p4, p5, p6, p7, p8, p9, p10, p11, p12⟩⟩⟩
        obtain ⟨m, rfl⟩ : ∃ m', m = m' + 1 := ⟨m - 1, by omega⟩
        rw [lp_Pr_part_17]
        by_cases ct : t + 1 < 1600
        · rw [show (1600 : Int32) = nI 1600 from rfl, if_pos (nI_lt ct (by decide)), c_gs hw p3.2.1 p2.1 p3.1, if_neg hg1]
          rfl
        · rw [show (1600 : Int32) = nI 1600 from rfl, if_neg (nI_nlt (by omega) (by omega))]
    · have v0 : v = 0 := v0
      rw [v0, if_pos rfl]
      exact ⟨_, rfl, Or.inr ⟨M1, rfl, hE, Or.inr ⟨rfl, f, p, N1, s, q1, q2, q3, q4, q5, q6, q7⟩⟩⟩
theorem z_partB (hw : z_wt n T) {k o : Nat} (ho : 1 ≤ o) (ho5 : o ≤ 5) (hG : z_GC T n k o) : z_PC T n (k + 1) o := by
  have hn := hw.1
  intro b a B c st M N hm hC hN hB3 hKT hcb
  have hb := hm.1
  show ∃ r, fb_Pr_part (fg_Pr_part k) 5 (nI o) M = some r ∧ _
  unfold fb_Pr_part
  rw [c_gs hw hC.2.1 hb hC.1]
  simp only [Option.bind_some]
  rw [z_if01]
  by_cases hg : z_gs T n b
  · rw [if_pos hg]
    obtain ⟨u, eu, hu⟩ := z_loopP hw ho ho5 hG (n - b) b a B c st M N jfuel 0 (Nat.le_refl _) hm hC hN hB3 hKT hcb hg (Nat.zero_le _) (by rw [z_jf]; omega)
    rw [nI_0] at eu
    rw [eu]
    rcases hu with ⟨M', rfl, hu⟩ | ⟨M', rfl, hu⟩
    · exact ⟨(1, M'), rfl, hu⟩
    · exact ⟨(0, M'), rfl, hu⟩
  · rw [if_neg hg]
    obtain ⟨N', n1, n2, n3⟩ := z_F1_no hw hm hN (by omega) hg
    rw [jp_5_0]
    refine ⟨(0, sI (sI M 3 5 1) 3 6 (M.1 3 3)), rfl, z_RE.rf.f.f.pe, Or.inr ⟨rfl, 1, z_sk T n b, N', 1, ⟨?_, ?_⟩, by decide, by decide, n1, n2, by omega, n3⟩⟩
    · rw [z_sIk _ _ _ _ (by decide), z_sIs]; rfl
    · rw [z_sIs]; exact hC.1.2.1
theorem z_groupB (hw : z_wt n T) {k o : Nat} (ho5 : o ≤ 5) (hP : o < 5 → z_PC T n k (o + 1)) : z_GC T n (k + 1) o := by
  have hn := hw.1
  intro b a B c st M N hm hC hN hB3 hKT hcb hg
  have hb := hm.1
  have hs := z_sk_s (T := T) hb
  have hen := z_en_s (T := T) hb
  have hlt := z_gs_lt hb hg
  have hblt := hen.2.2.1 hlt
  obtain ⟨hR, hT, hBC⟩ := hC
  show ∃ r, fb_Pr_group (fg_Pr_part k) 5 (nI o) M = some r ∧ _
  unfold fb_Pr_group
  rw [jp_5_0, show (40 : Int32) = nI 40 from rfl, c_isSign hw hT hb hR (by decide)]
  simp only [Option.bind_some]
  rw [z_if01]
  -- the reference looks
  obtain ⟨⟨v, Nq⟩, eq, vq, rq, xq⟩ := m_look hw hb hN.1
  have vq : v = nI (T (z_sk T n b)) := by
    have : v = if z_sk T n b < n then nI (T (z_sk T n b)) else -1 := vq
    rw [this, if_pos hlt]
  have hTk := hw.2 _ hlt
  have hNq : z_PM1 T n b (z_sk T n b) B c o st Nq := hN.lx rq xq
  have st17 : ∀ f, z_F1 (f + 1) N = if v = 40 then ((f_Mo_opens 366 Nq).bind fun q6 => z_F1 f q6) else ((f_Mo_barsTold 366 Nq).bind fun q7 => z_F2 jfuel f q7) := fun f => by
    unfold z_F1
    rw [lp_Mo_groupTold_17, if_pos hN.1.2.2.2.2.2.1, if_neg z_10, eq]
    rfl
  by_cases c40 : z_sg T n b 40
  · rw [if_pos c40]
    have v40 : v = 40 := by rw [vq, c40.2]; rfl
    by_cases c5 : o = 5
    · -- the 6th
      subst c5
      rw [if_neg (show ¬ nI 5 < 5 by decide)]
      refine ⟨(0, sI (sI M 3 5 4) 3 6 (M.1 3 3)), rfl, z_RE.rf.f.f.pe, Or.inr ⟨rfl, 4, z_sk T n b, sI (sI Nq 366 5 (nI 4)) 366 6 (nI (z_sk T n b)), 1, ⟨?_, ?_⟩, by decide, by decide, z_MF.mk _ _, xq.f.px, by omega, fun m => ?_⟩⟩
      · rw [z_sIk _ _ _ _ (by decide), z_sIs]; rfl
      · rw [z_sIs]; exact hR.2.1
      · rw [st17, if_pos v40]
        unfold f_Mo_opens
        rw [hNq.2.2.1, if_pos (show nI 5 = 5 from rfl), rq.1, show (4 : Int32) = nI 4 from rfl, m_fail rq.2.2.2.2.2.1]
        simp only [Option.bind_some]
        exact z_F1_bad ((z_MF.mk 4 _).bad (by decide) (by decide)) m
    · have ho4 : o < 5 := by omega
      rw [if_pos (show nI o < 5 from nI_lt (b := 5) ho4 (by decide))]
      -- one bracket more
      obtain ⟨M1, e1, m1, m2, m3⟩ := c_next hw hT hb hR
      have en1 : z_en T n b = z_sk T n b + 1 := z_en_3 c40.1
      have hNo : ∃ N1, f_Mo_opens 366 Nq = some N1 ∧ z_PM1 T n (z_en T n b) (z_en T n b) B c (o + 1) (fun j => if j = o then c else st j) N1 ∧ z_PX Nq N1 := by
        unfold f_Mo_opens
        rw [hNq.2.2.1, if_neg (fun (q : nI o = 5) => c5 ((nI_eq (b := 5) (by omega) (by decide)).mp q)), jm_45, hNq.2.1.1, zs_398 _ (by omega)]
        simp only [Option.bind_some]
        rw [z_sIa _ _ _ _ (by decide), hNq.2.2.1, nI_1]
        generalize hNa : sI (sI Nq 398 o (nI c)) 366 46 (nI (o + 1)) = Na
        have ra : z_RF T n b (z_sk T n b) Na := by
          obtain ⟨r1, r2, r3, r4, r5, r6, r7, r8⟩ := rq
          have g : ∀ j, j ≠ 46 → Na.1 366 j = Nq.1 366 j := fun j hj => by rw [← hNa, z_sIk _ _ _ _ hj, z_sIa _ _ _ _ (by decide)]
          refine ⟨(g 2 (by decide)).trans r1, r2, r3, (g 3 (by decide)).trans r4, ?_, (g 5 (by decide)).trans r6, (g 6 (by decide)).trans r7, fun j hj => by rw [← hNa, z_sIa _ _ _ _ (by decide), z_sIa _ _ _ _ (by decide)]; exact r8 j hj⟩
          unfold z_ed
          rw [g 4 (by decide)]; exact r5
        obtain ⟨N1, e2, x2, h2⟩ := m_asksS (c := 40) hw hm ra (by unfold z_al; omega) (by decide)
        have h2 : z_RF T n (z_en T n b) (z_en T n b) N1 := by
          rcases h2 with ⟨_, q⟩ | ⟨q, _⟩
          · exact q
          · exact absurd c40 q
        rw [show (40 : Int32) = nI 40 from rfl, e2]
        refine ⟨N1, rfl, ⟨h2, ⟨?_, fun i i1 i2 => ?_⟩, ?_, fun j hj => ?_⟩, ?_⟩
        · rw [x2.2 44 (by decide), ← hNa, z_sIk _ _ _ _ (by decide), z_sIa _ _ _ _ (by decide)]; exact hNq.2.1.1
        · rw [x2.1.1 397 (by decide), ← hNa, z_sIa _ _ _ _ (by decide), z_sIa _ _ _ _ (by decide)]; exact hNq.2.1.2 i i1 i2
        · rw [x2.2 46 (by decide), ← hNa, z_sIs]
        · rw [x2.1.1 398 (by decide), ← hNa, z_sIa _ _ _ _ (by decide)]
          show _ = nI (if j = o then c else st j)
          by_cases e : j = o
          · subst e; rw [z_sIs, if_pos rfl]
          · rw [z_sIk _ _ _ _ e, if_neg e]; exact hNq.2.2.2 j (by omega)
        · rw [← hNa] at x2
          exact (z_PX.rf.o.s (Or.inr rfl)).tr x2.px
      obtain ⟨N1, eo, o1, o2⟩ := hNo
      have hBC1 : z_BC B c M1 := hBC.re m2
      have hcb1 : c ≤ 60 + z_en T n b * 59049 := Nat.le_trans hcb (Nat.add_le_add_left (Nat.mul_le_mul_right _ (by omega)) _)
      obtain ⟨⟨w, M2⟩, er, hE2, hO2⟩ := hP ho4 (z_en T n b) (z_en T n b) B c (fun j => if j = o then c else st j) M1 N1 hen.2.2.2 ⟨m1, hT.re m2, hBC1⟩ o1 hB3 ((hKT.px xq.px).px o2) hcb1
      have hE2 : z_PE M1 M2 := hE2
      have F0 : ∀ f, z_F1 (f + 1) N = z_F1 f N1 := fun f => by rw [st17, if_pos v40, eo]; rfl
      rw [e1, nI_1]
      simp only [Option.bind_some]
      rw [er]
      simp only [Option.bind_some]
      rcases hO2 with ⟨w1, b2, a2, B2, c2, N2, s, g, p1, p2, pe, p3, p4, p5, p6, p7, p8, p9, p10, p11, p12⟩ | ⟨w0, f, p, N2, s, q1, q2, q3, q4, q5, q6, q7⟩
      · have w1 : w = 1 := w1
        have p3 : z_PC1 T n b2 B2 c2 M2 := p3
        have p6 : z_SF M1 M2 := p6
        rw [w1, if_neg z_10]
        obtain ⟨p3R, p3T, p3B⟩ := p3
        have hs2 := z_sk_s (T := T) p2.1
        obtain ⟨g, rfl⟩ : ∃ g', g = g' + 1 := ⟨g - 1, by omega⟩
        obtain ⟨⟨x, M3⟩, e3, t3, h3⟩ := c_sign (c := 41) hw p3T p2.1 p3R (by decide)
        have t3 : z_RE M2 M3 := t3
        rw [show (41 : Int32) = nI 41 from rfl, e3]
        simp only [Option.bind_some]
        rcases h3 with ⟨c41, x1, r3, f3⟩ | ⟨c41, x0, cf3⟩
        · have x1 : x = 1 := x1
          have r3 : z_RD T n (z_en T n b2) M3 := r3
          have f3 : z_SF M2 M3 := f3
          rw [x1, if_neg z_10]
          have hen2 := z_en_s (T := T) p2.1
          have en2 : z_en T n b2 = z_sk T n b2 + 1 := z_en_3 c41.1
          -- times
          have t3T := p3T.re t3
          obtain ⟨⟨y, M4⟩, e4, t4, h4⟩ := c_word (w := zw_times) (a := 1007) hw t3T hen2.2.1 r3 rfl (by decide) (by decide +kernel) (by decide)
          have t4 : z_RE M3 M4 := t4
          rw [e4]
          simp only [Option.bind_some]
          -- the reference closes
          obtain ⟨⟨v2, Nr⟩, er2, vr, rr, xr⟩ := m_look hw p2.1 p4.1
          have h41lt : z_sk T n b2 < n := (z_so_3.mp c41.1).1
          have v2e : v2 = 41 := by
            have : v2 = if z_sk T n b2 < n then nI (T (z_sk T n b2)) else -1 := vr
            rw [this, if_pos h41lt, c41.2]; rfl
          have hNr := p4.lx rr xr
          obtain ⟨Ns, es, xs, hs3⟩ := m_asksS (c := 41) hw p2 rr (by unfold z_al; omega) (by decide)
          have hs3 : z_RF T n (z_en T n b2) (z_en T n b2) Ns := by
            rcases hs3 with ⟨_, q⟩ | ⟨q, _⟩
            · exact q
            · exact absurd c41 q
          have hNs : z_PM1 T n (z_en T n b2) (z_en T n b2) B2 c2 (o + 1) (fun j => if j = o then c else st j) Ns := ⟨hs3, hNr.2.1.lx xs, (xs.2 46 (by decide)).trans hNr.2.2.1, fun j hj => by rw [xs.1.1 398 (by decide)]; exact hNr.2.2.2 j hj⟩
          have hKs : z_KT Ns := ((((hKT.px xq.px).px o2).px p7).px xr.px).px xs.px
          obtain ⟨Nt, et, xt, ht⟩ := m_asks (w := zw_times) hw hen2.2.2.2 hs3 jl_384 (by decide) hKs (by decide) (by decide)
          have F48 : ∀ f, z_F2 (g + 1) f N2 = ((f_Mo_closes 366 Nr).bind fun q12 => z_F2 g f q12) := fun f => by
            unfold z_F2
            rw [lp_Mo_groupTold_48, if_pos p4.1.2.2.2.2.2.1, p4.2.2.1, if_pos (show (0 : Int32) < nI (o + 1) from nI_lt (a := 0) (by omega) (by omega)), er2]
            simp only [Option.bind_some]
            rw [if_pos v2e]
            cases f_Mo_closes 366 Nr <;> rfl
          have ecl : f_Mo_closes 366 Nr = (f_Mo_number 366 2 9 Nt).bind fun q3 => if (q3.2.1 366 5) = 0 then ((aI (sI q3.2 366 46 ((q3.2.1 366 46) - 1)) (jpf 366 45) ((sI q3.2 366 46 ((q3.2.1 366 46) - 1)).1 366 46)).bind fun v5 => (lp_Mo_closes_60 366 q3.1 v5 (((sI q3.2 366 46 ((q3.2.1 366 46) - 1)).1 366 44) - v5) jfuel 0 (sI q3.2 366 46 ((q3.2.1 366 46) - 1))).bind fun q10 => some (sI q10 366 44 (v5 + ((((sI q3.2 366 46 ((q3.2.1 366 46) - 1)).1 366 44) - v5) * q3.1)))) else (some q3.2) := by
            unfold f_Mo_closes
            rw [show (41 : Int32) = nI 41 from rfl, es]
            simp only [Option.bind_some]
            rw [jm_26, et]
            rfl
          have xN : z_PX N Nt := ((((xq.px.tr o2).tr p7).tr xr.px).tr xs.px).tr xt.px
          have xM : z_PE M M4 := ((m2.pe.tr hE2).tr t3.pe).tr t4.pe
          -- a FAULT behind the )
          have bad : ∀ {f p : Nat} {M' N' : SM}, z_PE M M' → z_PX N N' → z_CF f p M' → 0 < f → f < 100 → z_MF f p N' → f_Mo_closes 366 Nr = some N' → z_out T n b o st c M N (fun _ => True) (0, M') := by
            intro f p M' N' h1 h2 h3 h4 h5 h6 h7
            refine ⟨h1, Or.inr ⟨rfl, f, p, N', s + 1, h3, h4, h5, h6, h2, by omega, fun m => ?_⟩⟩
            obtain ⟨g', hg'⟩ : ∃ g', g = g' + 1 := ⟨g - 1, by omega⟩
            rw [show m + 1 + (s + 1) = m + 1 + s + 1 by omega, F0, p12, F48, h7]
            simp only [Option.bind_some]
            rw [hg']
            exact z_F2_bad (h6.bad h4 h5) g' m
          rcases h4 with ⟨c4, y1, r4, f4⟩ | ⟨c4, y0, cf4⟩
          · have y1 : y = 1 := y1
            have r4 : z_RD T n (z_en T n (z_en T n b2)) M4 := r4
            have f4 : z_SF M3 M4 := f4
            rw [y1, if_neg z_10]
            have ht2 : z_RF T n (z_en T n (z_en T n b2)) (z_en T n (z_en T n b2)) Nt := by
              rcases ht with ⟨_, q⟩ | ⟨q, _⟩
              · exact q
              · exact absurd c4 q
            have hen4 := z_en_s (T := T) hen2.2.1
            generalize hb4 : z_en T n (z_en T n b2) = b4 at r4 ht2 hen4
            have t4T := t3T.re t4
            obtain ⟨⟨z, M5⟩, e5, t5, h5⟩ := c_num (lo := 2) (hi := 9) hw t4T hen4.2.1 r4 (by decide) (by decide)
            have t5 : z_RE M4 M5 := t5
            obtain ⟨⟨z', Nu⟩, eu, xu, hu⟩ := m_num (lo := 2) (hi := 9) hw hen4.2.2.2 ht2 (by decide) (by decide)
            have xu : z_LX Nt Nu := xu
            rw [show (2 : Int32) = nI 2 from rfl, show (9 : Int32) = nI 9 from rfl, e5]
            rw [show (2 : Int32) = nI 2 from rfl, show (9 : Int32) = nI 9 from rfl, eu] at ecl
            simp only [Option.bind_some] at ecl
            simp only [Option.bind_some]
            rcases h5 with ⟨nf, z1, r5, f5⟩ | ⟨f, p, nf, z1, cf5⟩
            · have z1 : z = _ := z1
              have r5 : z_RD T n (z_en T n b4) M5 := r5
              have f5 : z_SF M4 M5 := f5
              rcases hu with ⟨_, u1, u2, _⟩ | ⟨f, p, nf', _⟩
              · have u1 : z' = _ := u1
                have u2 : z_RF T n (z_en T n b4) (z_en T n b4) Nu := u2
                have hnf : 2 ≤ z_nv T (z_sk T n b4) (z_en T n b4 - z_sk T n b4) ∧ z_nv T (z_sk T n b4) (z_en T n b4 - z_sk T n b4) ≤ 9 ∧ z_so T n b4 = 2 := by
                  unfold z_nf at nf
                  by_cases d1 : z_so T n b4 ≠ 2
                  · rw [if_pos d1] at nf; cases nf
                  · rw [if_neg d1] at nf
                    by_cases d2 : 4 < z_en T n b4 - z_sk T n b4
                    · rw [if_pos d2] at nf; cases nf
                    · rw [if_neg d2] at nf
                      split at nf
                      · cases nf
                      · exact ⟨by omega, by omega, by omega⟩
                have hen5 := z_en_s (T := T) (n := n) (b := b4) (by rw [← hb4]; exact (z_en_s hen2.2.1).2.1)
                have hb4n : b4 ≤ n := by rw [← hb4]; exact (z_en_s hen2.2.1).2.1
                have hs4 := z_sk_s (T := T) hb4n
                have hs5 := z_sk_s (T := T) hen2.2.1
                have hlt4 := (z_so_2 hnf.2.2).1
                have hb4lt := hen5.2.2.1 hlt4
                generalize hvv : z_nv T (z_sk T n b4) (z_en T n b4 - z_sk T n b4) = tv at z1 u1 hnf
                rw [z1, if_neg (nI_pos (by omega))]
                -- the class tells them again
                have hc2b := z_cb (o := o + 1) (by omega) hcb1 (Nat.le_of_lt p1) p9
                have hb2n := p2.1
                have hc2s : c2 < 10 ^ 8 := by
                  have : b2 * 59049 ≤ 1600 * 59049 := Nat.mul_le_mul_right _ (by omega)
                  omega
                have hB5 : z_BC B2 c2 M5 := ((p3B.re t3).re t4).re t5
                rw [hBC.1]
                obtain ⟨M6, e6, B6, F6⟩ := c_repeat (t := tv) hB5 p8 hnf.1 hnf.2.1 (by omega)
                rw [e6]
                refine ⟨(1, M6), rfl, ((xM.tr t5.pe).tr (F6.wk (fun i q => ⟨q.2.2.1, q.2.2.2⟩))), Or.inl ?_⟩
                -- the reference
                have e46 : Nu.1 366 46 = nI (o + 1) := (xu.2 46 (by decide)).trans ((xt.2 46 (by decide)).trans hNs.2.2.1)
                have u5 : Nu.1 366 5 = 0 := u2.2.2.2.2.2.1
                rw [if_pos u5, e46, z_ls (by omega), show o + 1 - 1 = o from rfl, z_sIs, jm_45, zi_398 _ (by omega)] at ecl
                simp only [Option.bind_some] at ecl
                have e398 : (sI Nu 366 46 (nI o)).1 398 o = nI c := by
                  rw [z_sIa _ _ _ _ (by decide), xu.1.1 398 (by decide), xt.1.1 398 (by decide), hNs.2.2.2 o (by omega)]
                  show nI (if o = o then c else st o) = _
                  rw [if_pos rfl]
                have e44 : (sI Nu 366 46 (nI o)).1 366 44 = nI c2 := by
                  rw [z_sIk _ _ _ _ (by decide), xu.2 44 (by decide), xt.2 44 (by decide)]; exact hNs.2.1.1
                have hBu : z_BM B2 c2 (sI Nu 366 46 (nI o)) := ⟨e44, fun i i1 i2 => by rw [z_sIa _ _ _ _ (by decide), xu.1.1 397 (by decide), xt.1.1 397 (by decide)]; exact hNs.2.1.2 i i1 i2⟩
                rw [e398, e44, z_sub (Nat.le_of_lt p8), u1, pk_mul, nI_add] at ecl
                obtain ⟨Nv, ev, v1, v3, v4⟩ := m_repeat (t := tv) hBu p8 hnf.1 hnf.2.1 hc2s
                rw [ev] at ecl
                simp only [Option.bind_some] at ecl
                have pxu : z_PX Nt Nv := (xu.px.s (Or.inr rfl)).tr v3
                have hen5b := hen5.2.2.2
                refine ⟨rfl, z_en T n b4, z_en T n b4, z_rp B2 c c2, c + (c2 - c) * tv, sI Nv 366 44 (nI (c + (c2 - c) * tv)), s + 1, g, by omega, hen5b, trivial, ⟨r5.fr (F6.1 3 (by decide)) (F6.1 4 (by decide)), (t4T.re t5).fr (F6.1 1 (by decide)) (F6.1 2 (by decide)), B6⟩, ⟨?_, ⟨z_sIs _ _ _ _, fun i i1 i2 => by rw [z_sIa _ _ _ _ (by decide)]; exact v1 i i1 i2⟩, ?_, fun j hj => ?_⟩, fun i i1 i2 => ?_, ⟨?_, ?_⟩, (xN.tr pxu).s (Or.inl rfl), ?_, ?_, ?_, by omega, fun f => ?_⟩
                · obtain ⟨r1, r2, r3', r4', r5', r6, r7, r8⟩ := u2
                  have gg : ∀ j, j ≠ 44 → j ≠ 46 → (sI Nv 366 44 (nI (c + (c2 - c) * tv))).1 366 j = Nu.1 366 j := fun j a b => by rw [z_sIk _ _ _ _ a, (v4 j a).1, z_sIk _ _ _ _ b]
                  refine ⟨(gg 2 (by decide) (by decide)).trans r1, r2, r3', (gg 3 (by decide) (by decide)).trans r4', ?_, (gg 5 (by decide) (by decide)).trans r6, (gg 6 (by decide) (by decide)).trans r7, fun j hj => by rw [z_sIa _ _ _ _ (by decide), v3.1.1 367 (by decide), z_sIa _ _ _ _ (by decide)]; exact r8 j hj⟩
                  unfold z_ed
                  rw [gg 4 (by decide) (by decide)]; exact r5'
                · rw [z_sIk _ _ _ _ (by decide), (v4 46 (by decide)).1, z_sIs]
                · rw [z_sIa _ _ _ _ (by decide), (v4 0 (by decide)).2, z_sIa _ _ _ _ (by decide), xu.1.1 398 (by decide), xt.1.1 398 (by decide), hNs.2.2.2 j (by omega)]
                  show nI (if j = o then c else st j) = _
                  rw [if_neg (by omega)]
                · unfold z_rp
                  split
                  · exact p5 i i1 (by assumption)
                  · next q => have := z_rp_i p8 (show c2 ≤ i by omega); exact p5 _ (by omega) this.1
                · rw [F6.1 3 (by decide), f5.1, f4.1, f3.1, p6.1, m3.1]
                · rw [F6.1 3 (by decide), f5.2, f4.2, f3.2, p6.2, m3.2]
                · have h2t : 2 * (c2 - c) ≤ (c2 - c) * tv := by rw [Nat.mul_comm]; exact Nat.mul_le_mul_left _ hnf.1
                  omega
                · have h9t : (c2 - c) * tv ≤ (c2 - c) * 9 := Nat.mul_le_mul_left _ hnf.2.1
                  have e5o : 5 - o = (5 - (o + 1)) + 1 := by omega
                  have h1 : (c2 - c) ≤ (b2 - z_en T n b) * 9 ^ (5 - (o + 1)) := by omega
                  have h2 : (c2 - c) * 9 ≤ (b2 - z_en T n b) * 9 ^ (5 - (o + 1)) * 9 := Nat.mul_le_mul_right _ h1
                  have h3 : (b2 - z_en T n b) * 9 ^ (5 - o) = (b2 - z_en T n b) * 9 ^ (5 - (o + 1)) * 9 := by rw [e5o, Nat.pow_succ, Nat.mul_assoc]
                  have h4 : (b2 - z_en T n b) * 9 ^ (5 - o) ≤ (z_en T n b4 - b) * 9 ^ (5 - o) := Nat.mul_le_mul_right _ (by omega)
                  omega
                · omega
                · rw [show f + (s + 1) = f + s + 1 by omega, F0, p12, F48, ecl]
                  rfl
              · rw [nf] at nf'; cases nf'
            · have z1 : z = -1 := z1
              rw [z1, if_pos (by decide)]
              rcases hu with ⟨nf', _⟩ | ⟨f', p', nf', hf, um⟩
              · rw [nf] at nf'; cases nf'
              · rw [nf] at nf'
                obtain ⟨rfl, rfl⟩ := Prod.mk.inj (Option.some.inj nf')
                have f3 : f < 100 := by
                  unfold z_nf at nf
                  split at nf
                  · have := (Prod.mk.inj (Option.some.inj nf)).1; omega
                  · split at nf
                    · have := (Prod.mk.inj (Option.some.inj nf)).1; omega
                    · split at nf
                      · have := (Prod.mk.inj (Option.some.inj nf)).1; omega
                      · cases nf
                refine ⟨(0, M5), rfl, bad (xM.tr t5.pe) (xN.tr xu.px) cf5 hf f3 um ?_⟩
                rw [ecl, if_neg (um.bad hf f3)]
          · have y0 : y = 0 := y0
            rw [y0, if_pos rfl]
            have hmf : z_MF 1 (z_sk T n (z_en T n b2)) Nt := by
              rcases ht with ⟨q, _⟩ | ⟨_, q⟩
              · exact absurd q c4
              · exact q
            refine ⟨(0, M4), rfl, bad xM xN cf4 (by decide) (by decide) hmf ?_⟩
            rw [ecl]
            have hb0 := hmf.bad (by decide) (by decide)
            unfold f_Mo_number
            rw [if_neg hb0]
            simp only [Option.bind_some]
            rw [if_neg hb0]
        · -- no )
          have x0 : x = 0 := x0
          have cf3 : z_CF 1 (z_sk T n b2) M3 := cf3
          rw [x0, if_pos rfl]
          obtain ⟨N3, n1, n2, n3⟩ := z_F2_go hw p2 p4 (by omega) (by omega) c41
          have hc2b := z_cb (o := o + 1) (by omega) hcb1 (Nat.le_of_lt p1) p9
          have hb2n := p2.1
          have hc2s : c2 < 2 ^ 30 := by
            have : b2 * 59049 ≤ 1600 * 59049 := Nat.mul_le_mul_right _ (by omega)
            omega
          obtain ⟨N4, k1, k2, k3⟩ := z_F1_no hw p2 n1 hc2s pe
          refine ⟨(0, M3), rfl, (m2.pe.tr hE2).tr t3.pe, Or.inr ⟨rfl, 1, z_sk T n b2, N4, s + 2, cf3, by decide, by decide, k1, (((xq.px.tr o2).tr p7).tr n2).tr k2, by omega, fun m => ?_⟩⟩
          rw [show m + 1 + (s + 2) = m + 1 + 1 + s + 1 by omega, F0, p12, n3, k3]
      · have w0 : w = 0 := w0
        rw [w0, if_pos rfl]
        refine ⟨(0, M2), rfl, m2.pe.tr hE2, Or.inr ⟨rfl, f, p, N2, s + 1, q1, q2, q3, q4, (xq.px.tr o2).tr q5, by omega, fun m => ?_⟩⟩
        rw [← Nat.add_assoc, F0, q7]
  · -- letters
    rw [if_neg c40]
    have hbw : z_bw T n b := by
      rcases hg with h | h
      · exact absurd h c40
      · exact h
    have v40 : ¬ v = 40 := by
      rw [vq]
      intro q
      have := (nI_eq (b := 40) (by omega) (by decide)).mp q
      have := (z_so_1 hbw.1).2.1
      omega
    obtain ⟨M1, e1, B1, F1, G1⟩ := c_letters hw hT hb hR hBC hbw
    rw [e1]
    simp only [Option.bind_some]
    obtain ⟨M2, e2, r2, t2, f2⟩ := c_next hw (hT.fr (F1.1 1 (by decide)) (F1.1 2 (by decide))) hb (hR.fr (F1.1 3 (by decide)) (F1.1 4 (by decide)))
    rw [e2]
    obtain ⟨N1, em, x1, y1, y2, hh⟩ := m_letters2 hw hm rq hNq.2.1 (by have : b * 59049 ≤ 1600 * 59049 := Nat.mul_le_mul_right _ (by omega); omega)
    have hh : z_RF T n (z_en T n b) (z_en T n b) N1 ∧ z_BM (z_bl1 T (z_sk T n b) c B) (c + (z_en T n b - z_sk T n b)) N1 := by
      rcases hh with ⟨_, q⟩ | ⟨q, _⟩
      · exact q
      · exact absurd hbw q
    have p9 := (z_pow9 ho5).1
    have p9m : (z_en T n b - b) * 1 ≤ (z_en T n b - b) * 9 ^ (5 - o) := Nat.mul_le_mul_left _ p9
    refine ⟨(1, M2), rfl, (F1.wk (fun i q => ⟨q.2.2.1, q.2.2.2⟩) : z_PE M M1).tr t2.pe, Or.inl ⟨rfl, z_en T n b, z_en T n b, z_bl1 T (z_sk T n b) c B, c + (z_en T n b - z_sk T n b), N1, 1, jfuel, by omega, hen.2.2.2, trivial, ⟨r2, (hT.fr (F1.1 1 (by decide)) (F1.1 2 (by decide))).re t2, B1.re t2⟩, ⟨hh.1, hh.2, y1.trans hNq.2.2.1, fun j hj => by rw [y2]; exact hNq.2.2.2 j hj⟩, z_bl1_3 hB3 hbw, ⟨f2.1.trans (by rw [F1.1 3 (by decide)]), f2.2.trans (by rw [F1.1 3 (by decide)])⟩, xq.px.tr x1, by omega, by omega, by omega, by rw [z_jf]; omega, fun f => ?_⟩⟩
    rw [st17, if_neg v40, em]; rfl
theorem z_groups (hw : z_wt n T) : ∀ j o k, o + j = 5 → z_GC T n (2 * j + 1 + k) o := by
  intro j
  induction j with
  | zero =>
    intro o k ho
    rw [show 2 * 0 + 1 + k = k + 1 by omega]
    exact z_groupB hw (by omega) (fun q => by omega)
  | succ j ih =>
    intro o k ho
    rw [show 2 * (j + 1) + 1 + k = (2 * j + 1 + k) + 1 + 1 by omega]
    exact z_groupB hw (by omega) (fun q => z_partB hw (by omega) (by omega) (ih (o + 1) k (by omega)))
end
