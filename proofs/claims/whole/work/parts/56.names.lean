/-! ===== pure: a NAME, both ===== -/
section
variable {T : Nat → Nat} {n b a : Nat} {M N : SM} {A : ZA} {nm : Nat → Nat → Nat} {R : Nat}
theorem m_newBad {v : Int64} (h : N.1 366 5 ≠ 0) : lp_Mo_newName_7 366 v jfuel 0 N = some N := by
  have : z_ok (lp_Mo_newName_7 366 v jfuel (nI 0) N) (fun N' => N' = N) := by
    refine z_loop (fun f c N' => lp_Mo_newName_7 366 v f c N') (fun _ N' => N' = N) _ 24 ?_ ?_ jfuel 0 N (by decide) (by rw [z_jf]; decide) rfl
    · intro f c N' hc hI k
      show z_ok (lp_Mo_newName_7 _ _ _ _ _) _
      rw [lp_Mo_newName_7, zl_24, if_pos (nI_lt hc (by decide)), hI, if_neg h]
      refine z_eq rfl ?_
      rw [nI_1]
      exact k N rfl
    · intro f N' hI
      show z_ok (lp_Mo_newName_7 _ _ _ _ _) _
      rw [lp_Mo_newName_7, if_neg (by decide)]
      exact z_some hI
  obtain ⟨r, e, q⟩ := this
  rw [nI_0] at e
  rw [e, q]
theorem m_newOk {E : Nat} (hE : E < 2 ^ 63) (h5 : N.1 366 5 = 0) (hM : ∀ i, i < 3 → N.1 385 i = nI (A 0 (3 + i))) (hn : z_nM A nm N) (h8 : z_nA A) (hE2 : ∀ i w, i < 3 → w < A 0 (3 + i) → z_EN nm (8 * i + w) < 2 ^ 63) :
    z_ok (lp_Mo_newName_7 366 (lN E) jfuel 0 N) (fun N' => (N' = N ∧ ¬ ∃ i w, i < 3 ∧ w < A 0 (3 + i) ∧ z_EN nm (8 * i + w) = E) ∨ (N' = sI (sI N 366 5 3) 366 6 (N.1 366 27) ∧ ∃ i w, i < 3 ∧ w < A 0 (3 + i) ∧ z_EN nm (8 * i + w) = E)) := by
  rw [← nI_0]
  refine z_loop (fun f c N' => lp_Mo_newName_7 366 (lN E) f c N') (fun c N' => (N' = N ∧ ¬ ∃ i w, i < 3 ∧ w < A 0 (3 + i) ∧ 8 * i + w < c ∧ z_EN nm (8 * i + w) = E) ∨ (N' = sI (sI N 366 5 3) 366 6 (N.1 366 27) ∧ ∃ i w, i < 3 ∧ w < A 0 (3 + i) ∧ z_EN nm (8 * i + w) = E)) _ 24 ?_ ?_ jfuel 0 N (by decide) (by rw [z_jf]; decide) (Or.inl ⟨rfl, fun ⟨i, w, h1, h2, h3, h4⟩ => by omega⟩)
  · intro f c N' hc hI k
    show z_ok (lp_Mo_newName_7 _ _ _ _ _) _
    rw [lp_Mo_newName_7, zl_24, if_pos (nI_lt hc (by decide))]
    rcases hI with ⟨rfl, hI⟩ | ⟨rfl, hI⟩
    · rw [if_pos h5, jm_28, jm_29, zl_8, pk_div (by omega) (by decide) (by decide), pk_mul, z_sub (Nat.div_mul_le_self _ _), show c - c / 8 * 8 = c % 8 by omega]
      have h3 : c / 8 < 3 := by omega
      have h88 := h8 _ h3
      have ec : 8 * (c / 8) + c % 8 = c := by omega
      rw [zi_385 _ (show c / 8 < 8 by omega)]
      refine z_bind (P := fun N1 => (N1 = N' ∧ ¬ ∃ i w, i < 3 ∧ w < A 0 (3 + i) ∧ 8 * i + w < c + 1 ∧ z_EN nm (8 * i + w) = E) ∨ (N1 = sI (sI N' 366 5 3) 366 6 (N'.1 366 27) ∧ ∃ i w, i < 3 ∧ w < A 0 (3 + i) ∧ z_EN nm (8 * i + w) = E)) ?_ (fun N1 h1 => by rw [nI_1]; exact k N1 h1)
      refine z_eq rfl ?_
      rw [hM _ h3]
      by_cases c1 : c % 8 < A 0 (3 + c / 8)
      · rw [if_pos (nI_lt c1 (by omega)), zi_386 _ (by omega)]
        have en := hn _ _ h3 c1
        rw [ec] at en
        have e2 := hE2 _ _ h3 c1
        rw [ec] at e2
        refine z_eq rfl ?_
        rw [en]
        by_cases c2 : z_EN nm c = E
        · rw [if_pos (by rw [c2])]
          have := m_fail (N := N') (f := 3) (p := 0) h5
          have e3 : f_Mo_fail 366 3 (N'.1 366 27) N' = some (sI (sI N' 366 5 3) 366 6 (N'.1 366 27)) := by unfold f_Mo_fail; rw [if_pos h5]
          exact z_eq e3 (z_some (Or.inr ⟨rfl, _, _, h3, c1, by rw [ec]; exact c2⟩))
        · rw [if_neg (fun t => c2 ((pk_lEQ e2 hE).mp t))]
          refine z_some (Or.inl ⟨rfl, fun ⟨i, w, g1, g2, g3, g4⟩ => ?_⟩)
          by_cases e : 8 * i + w = c
          · rw [e] at g4; exact c2 g4
          · exact hI ⟨i, w, g1, g2, by omega, g4⟩
      · rw [if_neg (nI_nlt (by omega) (by omega))]
        refine z_some (Or.inl ⟨rfl, fun ⟨i, w, g1, g2, g3, g4⟩ => ?_⟩)
        have := h8 i g1
        by_cases e : 8 * i + w = c
        · have ei : i = c / 8 := by omega
          have ew : w = c % 8 := by omega
          rw [ei, ew] at g2; exact c1 g2
        · exact hI ⟨i, w, g1, g2, by omega, g4⟩
    · rw [if_neg (by rw [z_sIk _ _ _ _ (by decide), z_sIs]; decide)]
      refine z_eq rfl ?_
      rw [nI_1]
      exact k _ (Or.inr ⟨rfl, hI⟩)
  · intro f N' hI
    show z_ok (lp_Mo_newName_7 _ _ _ _ _) _
    rw [lp_Mo_newName_7, if_neg (by decide)]
    refine z_some ?_
    rcases hI with ⟨rfl, hI⟩ | hI
    · refine Or.inl ⟨rfl, fun ⟨i, w, g1, g2, g3⟩ => hI ⟨i, w, g1, g2, ?_, g3⟩⟩
      have := h8 i g1
      omega
    · exact Or.inr hI
theorem z_EN_b (hk : z_nk A nm) {i w : Nat} (hi : i < 3) (hw : w < A 0 (3 + i)) : z_EN nm (8 * i + w) < 2 ^ 63 := by
  have h := hk i w hi hw
  have h1 : z_EN nm (8 * i + w) < 27 ^ (nm (8 * i + w) 6) := z_EN_lt (fun k hk' => (h.2.2 k (by omega)).1)
  have h2 : 27 ^ (nm (8 * i + w) 6) ≤ 27 ^ 6 := Nat.pow_le_pow_right (by decide) h.2.1
  have h3 : 27 ^ 6 < 2 ^ 63 := by decide
  omega
theorem z_EN_thr (hw : z_wt n T) (hb : b ≤ n) (hs : z_so T n b = 1) (h6 : z_en T n b - z_sk T n b ≤ 6) (hk : z_nk A nm) : (∃ i w, i < 3 ∧ w < A 0 (3 + i) ∧ z_EN nm (8 * i + w) = z_en2 T (z_sk T n b) (z_en T n b - z_sk T n b)) ↔ z_thr A nm (z_nl T n b) := by
  obtain ⟨s1, s2, s3⟩ := z_nl_s hw hs h6 hb
  have g : ∀ k, k < z_en T n b - z_sk T n b → 1 ≤ T (z_sk T n b + k) - 96 ∧ T (z_sk T n b + k) - 96 < 27 := fun k hk' => by have := s1 k hk'; omega
  refine ⟨fun ⟨i, w, h1, h2, h3⟩ => ⟨i, w, h1, h2, fun k k6 => ?_⟩, fun ⟨i, w, h1, h2, h3⟩ => ⟨i, w, h1, h2, ?_⟩⟩
  · have hh := hk i w h1 h2
    have f : ∀ k, k < nm (8 * i + w) 6 → 1 ≤ nm (8 * i + w) k ∧ nm (8 * i + w) k < 27 := fun k hk' => by
      have := hh.2.2 k (by omega)
      exact ⟨by have := this.2; omega, this.1⟩
    have inj := z_EN_inj f g h3
    have := z_nl_c hw hs h6 hb k
    by_cases c : k < nm (8 * i + w) 6
    · rw [inj.2 k c]
      unfold z_nl
      rw [(s1 k (by rw [← inj.1]; exact c)).1]
    · have e1 := (hh.2.2 k k6).2.mpr (by omega)
      have e2 := this.2.2.mpr (by rw [← inj.1]; omega)
      rw [e1, e2]
  · have hh := hk i w h1 h2
    have el : nm (8 * i + w) 6 = z_en T n b - z_sk T n b := by
      -- the first letter that is none
      have p1 : ∀ k, k < 6 → (nm (8 * i + w) 6 ≤ k ↔ z_en T n b - z_sk T n b ≤ k) := fun k k6 => by
        rw [← (hh.2.2 k k6).2, h3 k k6]
        exact (z_nl_c hw hs h6 hb k).2.2
      by_cases c1 : nm (8 * i + w) 6 < 6
      · have q1 := (p1 _ c1).mp (Nat.le_refl _)
        by_cases c2 : z_en T n b - z_sk T n b < 6
        · have q2 := (p1 _ c2).mpr (Nat.le_refl _)
          omega
        · omega
      · by_cases c2 : z_en T n b - z_sk T n b < 6
        · have q2 := (p1 _ c2).mpr (Nat.le_refl _)
          omega
        · have := hh.2.1; omega
    unfold z_EN z_en2
    rw [el]
    refine z_it_eq (fun k hk' => ?_)
    rw [h3 k (by omega)]
    unfold z_nl
    rw [(s1 k hk').1]
theorem m_newName (hw : z_wt n T) (hm : z_mb T n b) (h : z_RF T n b a N) (hK : z_KW N) (hM : ∀ i, i < 3 → N.1 385 i = nI (A 0 (3 + i))) (hn : z_nM A nm N) (h8 : z_nA A) (hk : z_nk A nm) :
    z_ok (f_Mo_newName 366 N) (fun r => z_LX N r.2 ∧ ((z_ny T n b A nm ∧ r.1 = lN (z_en2 T (z_sk T n b) (z_en T n b - z_sk T n b)) ∧ z_RF T n (z_en T n b) (z_en T n b) r.2) ∨ (∃ f p, z_nx T n b A nm f p ∧ 0 < f ∧ f < 100 ∧ z_MF f p r.2))) := by
  unfold f_Mo_newName
  refine z_bind (m_name hw hm h hK) fun q hq => ?_
  obtain ⟨q1, q2 | q2 | q2⟩ := hq
  · obtain ⟨s1, s2, s3, s4, s5, s6⟩ := q2
    have hb := hm.1
    have g := z_nl_s hw s1 s3 hb
    have hE : z_en2 T (z_sk T n b) (z_en T n b - z_sk T n b) < 2 ^ 63 := by
      have h1 : z_en2 T (z_sk T n b) (z_en T n b - z_sk T n b) < 27 ^ (z_en T n b - z_sk T n b) := z_EN_lt (fun k hk' => by have := g.1 k hk'; omega)
      have h2 : 27 ^ (z_en T n b - z_sk T n b) ≤ 27 ^ 6 := Nat.pow_le_pow_right (by decide) s3
      have h3 : 27 ^ 6 < 2 ^ 63 := by decide
      omega
    rw [s4]
    refine z_bind (m_newOk (N := q.2) hE s5.2.2.2.2.2.1 (fun i hi => by rw [q1.1.1 385 (by decide)]; exact hM i hi) (fun i w hi hw' => by rw [q1.1.2]; exact hn i w hi hw') h8 (fun i w hi hw' => z_EN_b hk hi hw')) fun N2 hN2 => ?_
    rcases hN2 with ⟨rfl, t⟩ | ⟨rfl, t⟩
    · exact z_some ⟨q1, Or.inl ⟨⟨s1, s2, s3, fun u => t ((z_EN_thr hw hb s1 s3 hk).mpr u)⟩, rfl, s5⟩⟩
    · refine z_some ⟨q1.f, Or.inr ⟨3, z_sk T n b, Or.inr (Or.inr ⟨s1, s2, s3, (z_EN_thr hw hb s1 s3 hk).mp t, rfl, rfl⟩), by decide, by decide, ?_⟩⟩
      rw [s6]; exact z_MF.mk 3 _
  · refine z_eq (m_newBad (q2.2.bad (by decide) (by decide))) (z_some ⟨q1, Or.inr ⟨1, _, Or.inl ⟨q2.1, rfl, rfl⟩, by decide, by decide, q2.2⟩⟩)
  · refine z_eq (m_newBad (q2.2.2.2.bad (by decide) (by decide))) (z_some ⟨q1, Or.inr ⟨1, _, Or.inr (Or.inl ⟨q2.1, q2.2.1, q2.2.2.1, rfl, rfl⟩), by decide, by decide, q2.2.2.2⟩⟩)
end
