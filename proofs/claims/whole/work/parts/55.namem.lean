/-! ===== pure: a NAME, the reference ===== -/
section
variable {T : Nat → Nat} {n b a : Nat} {M N : SM} {A : ZA} {nm : Nat → Nat → Nat}
def z_en2 (T : Nat → Nat) (k m : Nat) : Nat := z_it (fun k' v => 27 * v + (T (k + k') - 96)) m 0
/-- the reference's NAME: its number, or its FAULT -/
theorem m_name (hw : z_wt n T) (hm : z_mb T n b) (h : z_RF T n b a N) (hk : z_KW N) :
    z_ok (f_Mo_name 366 N) (fun r => z_LX N r.2 ∧
      ((z_so T n b = 1 ∧ ¬ z_anyw T n b z_OW ∧ z_en T n b - z_sk T n b ≤ 6 ∧ r.1 = lN (z_en2 T (z_sk T n b) (z_en T n b - z_sk T n b)) ∧ z_RF T n (z_en T n b) (z_en T n b) r.2 ∧ r.2.1 366 27 = nI (z_sk T n b)) ∨
       ((z_so T n b ≠ 1 ∨ z_anyw T n b z_OW) ∧ z_MF 1 (z_sk T n b) r.2) ∨
       (z_so T n b = 1 ∧ ¬ z_anyw T n b z_OW ∧ 6 < z_en T n b - z_sk T n b ∧ z_MF 1 (z_sk T n b + 6) r.2))) := by
  have hn := hw.1
  have hb := hm.1
  have hsk := z_sk_s (T := T) hb
  have hen := z_en_s (T := T) hb
  unfold f_Mo_name
  rw [if_pos h.2.2.2.2.2.1]
  refine z_bind (m_look hw hb h) fun q hq => ?_
  obtain ⟨q1, q2, q3⟩ := hq
  have no : z_so T n b ≠ 1 → z_ok ((f_Mo_fail 366 1 (q.2.1 366 2) q.2).bind fun q5 => some ((0 : Int64), q5)) (fun r => z_LX N r.2 ∧
      ((z_so T n b = 1 ∧ ¬ z_anyw T n b z_OW ∧ z_en T n b - z_sk T n b ≤ 6 ∧ r.1 = lN (z_en2 T (z_sk T n b) (z_en T n b - z_sk T n b)) ∧ z_RF T n (z_en T n b) (z_en T n b) r.2 ∧ r.2.1 366 27 = nI (z_sk T n b)) ∨
       ((z_so T n b ≠ 1 ∨ z_anyw T n b z_OW) ∧ z_MF 1 (z_sk T n b) r.2) ∨
       (z_so T n b = 1 ∧ ¬ z_anyw T n b z_OW ∧ 6 < z_en T n b - z_sk T n b ∧ z_MF 1 (z_sk T n b + 6) r.2))) := fun hs => by
    rw [q2.1]
    exact z_eq (m_fail (f := 1) q2.2.2.2.2.2.1) (z_some ⟨q3.f, Or.inr (Or.inl ⟨Or.inl hs, z_MF.mk 1 _⟩)⟩)
  rw [q1]
  by_cases c0 : z_sk T n b < n
  · have hT := hw.2 _ c0
    rw [if_pos c0]
    refine z_eq (m_isLe (by omega)) ?_
    rw [z_if01]
    by_cases c1 : z_le (T (z_sk T n b))
    · rw [if_pos c1]
      by_cases c2 : z_sk T n b = b ∧ 0 < b ∧ z_al (T (b - 1))
      · rw [if_pos ((z_ed_q hw hb q2).mpr c2)]
        exact no (fun t => (z_so_le hm c0 c1).mp t c2)
      · rw [if_neg (fun t => c2 ((z_ed_q hw hb q2).mp t))]
        have hs1 := (z_so_le hm c0 c1).mpr c2
        refine z_bind (m_own hw hm q2 (hk.lx q3)) fun p hp => ?_
        obtain ⟨p1, ⟨a', p2, pa⟩, p3⟩ := hp
        have p2 : z_RF T n b (z_sk T n b) p.2 := by rw [pa rfl] at p2; exact p2
        rcases p3 with ⟨own, p3⟩ | ⟨own, p3⟩
        · rw [p3, if_neg (show ¬ (1 : Int32) = 0 by decide), p2.1]
          exact z_eq (m_fail (f := 1) p2.2.2.2.2.2.1) (z_some ⟨(q3.tr p1).f, Or.inr (Or.inl ⟨Or.inr own, z_MF.mk 1 _⟩)⟩)
        · rw [p3, if_pos rfl, p2.1]
          have hwd := z_wd_s (T := T) (b := z_sk T n b) (Nat.le_of_lt c0)
          rw [← (z_so_1 hs1).2.2] at hwd
          have hle : ∀ j, z_sk T n b ≤ j → j < z_en T n b → z_le (T j) := hwd.2.2.1
          have loop : ∀ j c N1, z_sk T n b ≤ c → c + j = z_en T n b → c - z_sk T n b ≤ 6 → N1.1 366 2 = nI c → N1.1 366 3 = nI n → N1.1 366 5 = 0 → N1.1 366 27 = nI (z_sk T n b) → (∀ k, k < n → N1.1 367 k = nI (T k)) →
              ∃ t N2, z_LX N1 N2 ∧ (∀ m, j < m → lp_Mo_name_58 366 m (lN (z_en2 T (z_sk T n b) (c - z_sk T n b))) N1 = some t) ∧ ((z_en T n b - z_sk T n b ≤ 6 ∧ t = .inl (lN (z_en2 T (z_sk T n b) (z_en T n b - z_sk T n b)), N2) ∧ N2 = (if c = z_en T n b then N1 else sI N1 366 2 (nI (z_en T n b)))) ∨ (6 < z_en T n b - z_sk T n b ∧ t = .inr (0, N2) ∧ z_MF 1 (z_sk T n b + 6) N2)) := by
            intro j
            induction j with
            | zero =>
              intro c N1 g1 g2 g3 e2 e3 e5 e27 e8
              have g2 : c = z_en T n b := g2
              subst g2
              refine ⟨.inl (lN (z_en2 T (z_sk T n b) (z_en T n b - z_sk T n b)), N1), N1, z_LX.rf, fun m hm => ?_, Or.inl ⟨g3, rfl, by rw [if_pos rfl]⟩⟩
              obtain ⟨m, rfl⟩ : ∃ m', m = m' + 1 := ⟨m - 1, by omega⟩
              rw [lp_Mo_name_58, e2, e3]
              by_cases c : z_en T n b < n
              · have hTc := hw.2 _ c
                rw [if_pos (nI_lt c (by omega)), jm_0, zi_367 _ (by omega), e8 _ c]
                simp only [Option.bind_some]
                rw [m_isLe (by omega), if_neg (hwd.2.2.2 c)]; rfl
              · rw [if_neg (nI_nlt (by omega) (by omega))]
            | succ j ih =>
              intro c N1 g1 g2 g3 e2 e3 e5 e27 e8
              have hd := hle c g1 (by omega)
              have hTc := hw.2 c (by omega)
              by_cases c4 : c - z_sk T n b = 6
              · refine ⟨.inr (0, sI (sI N1 366 5 (nI 1)) 366 6 (nI (z_sk T n b + 6))), _, z_LX.rf.f, fun m hm => ?_, Or.inr ⟨by omega, rfl, z_MF.mk _ _⟩⟩
                obtain ⟨m, rfl⟩ : ∃ m', m = m' + 1 := ⟨m - 1, by omega⟩
                rw [lp_Mo_name_58, e2, e3, e27, if_pos (nI_lt (by omega) (by omega)), jm_0, zi_367 _ (by omega), e8 _ (by omega)]
                simp only [Option.bind_some]
                rw [m_isLe (by omega), if_pos hd]
                simp only [Option.bind_some]
                rw [if_neg z_10, z_sub g1, c4, if_pos (show nI 6 = 6 from rfl)]
                have := m_fail (N := N1) (f := 1) (p := c) e5
                rw [show (1 : Int32) = nI 1 from rfl, this, show c = z_sk T n b + 6 by omega]; rfl
              · have e9 : z_en2 T (z_sk T n b) (c + 1 - z_sk T n b) = 27 * z_en2 T (z_sk T n b) (c - z_sk T n b) + (T c - 96) := by
                  rw [show c + 1 - z_sk T n b = (c - z_sk T n b) + 1 by omega]
                  show 27 * z_en2 T (z_sk T n b) (c - z_sk T n b) + (T (z_sk T n b + (c - z_sk T n b)) - 96) = _
                  rw [show z_sk T n b + (c - z_sk T n b) = c by omega]
                obtain ⟨t, N2, t1, t2, t3⟩ := ih (c + 1) (sI N1 366 2 (nI (c + 1))) (by omega) (by omega) (by omega) (z_sIs _ _ _ _) ((z_sIk _ _ _ _ (by decide)).trans e3) ((z_sIk _ _ _ _ (by decide)).trans e5) ((z_sIk _ _ _ _ (by decide)).trans e27) (fun k hk => by rw [z_sIa _ _ _ _ (by decide)]; exact e8 k hk)
                refine ⟨t, N2, (z_LX.rf.s (Or.inl rfl)).tr t1, fun m hm => ?_, ?_⟩
                · obtain ⟨m, rfl⟩ : ∃ m', m = m' + 1 := ⟨m - 1, by omega⟩
                  have t2' := t2 m (by omega)
                  rw [lp_Mo_name_58, e2, e3, e27, if_pos (nI_lt (by omega) (by omega)), jm_0, zi_367 _ (by omega), e8 _ (by omega)]
                  simp only [Option.bind_some]
                  rw [m_isLe (by omega), if_pos hd]
                  simp only [Option.bind_some]
                  rw [if_neg z_10, z_sub g1, if_neg (fun (e : nI (c - z_sk T n b) = 6) => c4 ((nI_eq (b := 6) (by omega) (by decide)).mp e)), nI_l (by omega), show (27 : Int64) = lN 27 from rfl, lN_mul, lN_add, show (97 : Int64) = lN 97 from rfl, lN_sub (by omega), lN_1, nI_1, ← t2', e9]
                  congr 2; omega
                · rcases t3 with ⟨u1, u2, u3⟩ | u
                  · refine Or.inl ⟨u1, u2, ?_⟩
                    rw [u3, if_neg (show ¬ c = z_en T n b by omega)]
                    by_cases e : c + 1 = z_en T n b
                    · rw [if_pos e, ← e]
                    · rw [if_neg e]
                      unfold sI
                      congr 1
                      funext a k
                      by_cases q : a = 366
                      · by_cases q2 : k = 2
                        · simp only [if_pos q, if_pos q2]
                        · simp only [if_pos q, if_neg q2]
                      · simp only [if_neg q]
                  · exact Or.inr u
          have pl : z_LX p.2 (sI p.2 366 27 (nI (z_sk T n b))) := z_LX.rf.s (by omega)
          have g1 : (sI p.2 366 27 (nI (z_sk T n b))).1 366 2 = nI (z_sk T n b) := (z_sIk _ _ _ _ (by decide)).trans p2.1
          have hlt := hen.2.2.1 c0
          obtain ⟨t, N2, t1, t2, t3⟩ := loop (z_en T n b - z_sk T n b) (z_sk T n b) (sI p.2 366 27 (nI (z_sk T n b))) (Nat.le_refl _) (by omega) (by omega) g1 ((z_sIk _ _ _ _ (by decide)).trans p2.2.2.2.1) ((z_sIk _ _ _ _ (by decide)).trans p2.2.2.2.2.2.1) (z_sIs _ _ _ _) (fun k hk => by rw [z_sIa _ _ _ _ (by decide)]; exact p2.2.2.2.2.2.2.2 k hk)
          rw [Nat.sub_self] at t2
          have t2' : lp_Mo_name_58 366 jfuel 0 (sI p.2 366 27 (nI (z_sk T n b))) = some t := t2 jfuel (by rw [z_jf]; omega)
          rw [t2']
          rcases t3 with ⟨u1, u2, u3⟩ | ⟨u1, u2, u3⟩
          · rw [if_neg (by omega)] at u3
            rw [u2]
            refine ⟨_, rfl, ?_, Or.inl ⟨hs1, own, u1, rfl, ?_, ?_⟩⟩
            · exact ((q3.tr p1).tr (pl.tr t1)).s (by omega)
            · have r27 : z_RF T n b (z_sk T n b) (sI p.2 366 27 (nI (z_sk T n b))) := by
                obtain ⟨r1, r2, r3, r4, r5, r6, r7, r8⟩ := p2
                refine ⟨(z_sIk _ _ _ _ (by decide)).trans r1, r2, r3, (z_sIk _ _ _ _ (by decide)).trans r4, ?_, (z_sIk _ _ _ _ (by decide)).trans r6, (z_sIk _ _ _ _ (by decide)).trans r7, fun j hj => by rw [z_sIa _ _ _ _ (by decide)]; exact r8 j hj⟩
                unfold z_ed
                rw [z_sIk _ _ _ _ (by decide)]; exact r5
              have gg := r27.go hm (k := z_en T n b) (Or.inl hs1) rfl
              rw [u3]
              have e22 : (sI (sI p.2 366 27 (nI (z_sk T n b))) 366 2 (nI (z_en T n b))).1 366 2 = nI (z_en T n b) := z_sIs _ _ _ _
              show z_RF T n (z_en T n b) (z_en T n b) (sI (sI (sI p.2 366 27 (nI (z_sk T n b))) 366 2 (nI (z_en T n b))) 366 4 ((sI (sI p.2 366 27 (nI (z_sk T n b))) 366 2 (nI (z_en T n b))).1 366 2))
              rw [e22]; exact gg
            · show (sI N2 366 4 _).1 366 27 = _
              rw [z_sIk _ _ _ _ (by decide), u3, z_sIk _ _ _ _ (by decide), z_sIs]
          · rw [u2]
            exact ⟨(0, N2), rfl, (q3.tr p1).tr (pl.tr t1), Or.inr (Or.inr ⟨hs1, own, u1, u3⟩)⟩
    · rw [if_neg c1]
      exact no (fun t => c1 (z_so_1 t).2.1)
  · rw [if_neg c0]
    exact z_eq (r := (0 : Int32)) rfl (z_pos rfl (no (fun t => c0 (z_so_1 t).1)))
end
