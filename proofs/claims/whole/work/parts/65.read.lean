/-! ===== pure: all STATEMENTS, both ===== -/
def z_YO (N N' : SM) : Prop := (∀ i k, z_pk i k → ¬ (i = 366 ∧ k = 42) → N'.1 i k = N.1 i k) ∧ ∀ i k, i ≠ 386 ∨ 24 ≤ k → N'.2 i k = N.2 i k
theorem z_YN.yo {N N' : SM} (h : z_YN N N') : z_YO N N' := ⟨fun i k q _ => h.1 i k q, h.2⟩
theorem z_YO.tr {N N' N'' : SM} (h : z_YO N N') (k : z_YO N' N'') : z_YO N N'' := ⟨fun i j q r => (k.1 i j q r).trans (h.1 i j q r), fun i j q => (k.2 i j q).trans (h.2 i j q)⟩
theorem z_YO.c {N : SM} {v : Int32} : z_YO N (sI N 366 42 v) := ⟨fun i k q r => by
  rw [z_sI]
  by_cases e : i = 366
  · subst e
    rw [if_pos rfl, if_neg (fun e => r ⟨rfl, e⟩)]
  · rw [if_neg e], fun _ _ _ => rfl⟩
theorem z_KW.yo {N N' : SM} (h : z_KW N) (k : z_YO N N') : z_KW N' := h.fr (fun i i1 i2 i3 => funext fun j => k.1 i j (by unfold z_pk; omega) (by omega))
/-- what the class does when the 70 are told -/
def z_rd (M : SM) : Option (Int32 × SM) := (f_Re_isEnd 3 M).bind fun q21 => if q21 = 0 then ((f_Re_fail 3 5 (M.1 3 3) M).bind fun q23 => if q23.1 = 0 then (some (0, q23.2)) else (some (1, q23.2))) else (some (1, M))
section
variable {T : Nat → Nat} {n R : Nat} {M N M1 N1 N2 M' N' : SM}
theorem z_so_0 {b : Nat} (h : n ≤ z_sk T n b) : z_so T n b = 0 := by
  unfold z_so
  rw [if_pos h]
theorem z_lk {b : Nat} (hw : z_wt n T) (hb : b ≤ n) : ((if z_sk T n b < n then nI (T (z_sk T n b)) else -1) = -1 ↔ z_so T n b = 0) := by
  by_cases c : z_sk T n b < n
  · rw [if_pos c]
    have hT := hw.2 _ c
    refine ⟨fun e => absurd e (z_neg1 (by omega)), fun e => ?_⟩
    exfalso
    unfold z_so at e
    rw [if_neg (by omega)] at e
    split at e
    · split at e <;> cases e
    · split at e
      · split at e <;> cases e
      · cases e
  · rw [if_neg c]
    exact ⟨fun _ => z_so_0 (by omega), fun _ => rfl⟩
theorem c_isEnd {b : Nat} (h : z_RD T n b M) : f_Re_isEnd 3 M = some (if z_so T n b = 0 then 1 else 0) := by
  have h4 := z_so_4 (T := T) (n := n) (b := b)
  unfold f_Re_isEnd
  rw [h.1]
  by_cases c : z_so T n b = 0
  · rw [if_pos (by rw [c]; rfl), if_pos c]
  · rw [if_neg (fun (e : nI (z_so T n b) = 0) => c ((nI_eq (b := 0) (by omega) (by decide)).mp e)), if_neg c]
/-- a STATEMENT's ; -/
theorem g_semi (hw : z_wt n T) {A : ZA} {v : Int32} (h : z_ST T n R A M N v M' N') : ∃ w M2 N2, ((if v = 0 then some ((0 : Int32), M') else (f_Re_takeSign 3 59 M').bind fun q => some (q.1, q.2)) = some (w, M2)) ∧ f_Mo_asksSign 366 59 N' = some N2 ∧ z_YC R M M2 ∧ z_YN N N2 ∧
    ((w = 1 ∧ v = 1 ∧ (∃ b', z_BT T n b' M2 N2) ∧ z_SF M M2 ∧ ∃ A' nm' P', A' 0 0 = A 0 0 ∧ z_QB R A' nm' P' M2 N2) ∨ (w = 0 ∧ z_FF M2 N2)) := by
  obtain ⟨C, Y, h3⟩ := h
  rcases h3 with ⟨v1, ⟨b, hB⟩, S, A', nm', P', hA, hQ⟩ | ⟨v0, F⟩ | ⟨v1, b, hm, hR, hT, hs, mf⟩
  · obtain ⟨q, N2, e1, e2, x1, x2, h4⟩ := g_sign (c := 59) hw hB (by unfold z_al; omega) (by decide)
    rcases h4 with ⟨q1, B2, S2, _⟩ | ⟨q0, F2⟩
    · exact ⟨1, q.2, N2, by rw [v1, if_neg z_10, show (59 : Int32) = nI 59 from rfl, e1]; show some (q.1, q.2) = _; rw [q1], e2, C.tr x1.yc, Y.tr x2.yn, Or.inl ⟨rfl, v1, ⟨_, B2⟩, S.tr S2, A', nm', P', hA, hQ.re x1 x2⟩⟩
    · exact ⟨0, q.2, N2, by rw [v1, if_neg z_10, show (59 : Int32) = nI 59 from rfl, e1]; show some (q.1, q.2) = _; rw [q0], e2, C.tr x1.yc, Y.tr x2.yn, Or.inr ⟨rfl, F2⟩⟩
  · exact ⟨0, M', N', by rw [v0, if_pos rfl], b_sign F.bad, C, Y, Or.inr ⟨rfl, F⟩⟩
  · obtain ⟨q, e1, x1, h4⟩ := c_sign (c := 59) hw hT hm.1 hR (by decide)
    have bad : N'.1 366 5 ≠ 0 := mf.bad (by decide) (by decide)
    rcases h4 with ⟨y, _⟩ | ⟨_, q0, cf⟩
    · exact absurd y.1 hs
    · exact ⟨0, q.2, N', by rw [v1, if_neg z_10, show (59 : Int32) = nI 59 from rfl, e1]; show some (q.1, q.2) = _; rw [q0], b_sign bad, C.tr x1.yc, Y, Or.inr ⟨rfl, 1, _, cf, by decide, by decide, mf⟩⟩
def z_fin (T : Nat → Nat) (n R : Nat) (A : ZA) (M N : SM) (v : Int32) (M' N' : SM) : Prop :=
  z_YD R M M' ∧ z_YO N N' ∧ ((v = 1 ∧ z_SF M M' ∧ (∃ t', 1 ≤ t' ∧ t' ≤ 70 ∧ M'.1 R 0 = nI t' ∧ N'.1 366 42 = nI t') ∧ N'.1 366 5 = 0 ∧ N'.1 366 6 = -1 ∧ ∃ A' nm' P', A' 0 0 = A 0 0 ∧ z_QB R A' nm' P' M' N') ∨ (v = 0 ∧ z_FF M' N'))
theorem z_QB.cnt {A : ZA} {nm : Nat → Nat → Nat} {P : ZP} {v w : Int32} (hQ : z_QB R A nm P M N) : z_QB R A nm P (sI M R 0 v) (sI N 366 42 w) := by
  obtain ⟨h1, h2, h3, h4, h5, h6, h7, h8, h9⟩ := hQ
  have hd8 := h3.nA rfl
  refine ⟨h1, by rw [z_sIa _ _ _ _ (by omega)]; exact h2, ?_, fun j w hj hw q hq => ?_, h5, h6, fun d hd => ?_, fun d hd => ?_, h9⟩
  · intro i k hi hk hD
    obtain ⟨g1, g2, g3⟩ := h3 i k hi hk hD
    have c0 := z_co_0 i hi k hk
    refine ⟨?_, ?_, g3⟩
    · rw [z_sI]
      by_cases e : R + z_co i k = R
      · rw [if_pos e, if_neg (by omega)]; exact g1
      · rw [if_neg e]; exact g1
    · rw [z_sI]
      by_cases e : z_mo i k = 366
      · rcases z_mo_in i hi k hk with ⟨_, e2⟩ | ⟨e2, _⟩
        · rw [if_pos e, if_neg (by omega)]; exact g2
        · omega
      · rw [if_neg e]; exact g2
  · rw [z_sIa _ _ _ _ (by omega)]; exact h4 j w hj hw q hq
  · rw [z_sIa _ _ _ _ (by omega), z_sIa _ _ _ _ (by omega)]; exact h7 d hd
  · rw [z_sIa _ _ _ _ (by decide)]; exact h8 d hd
theorem z_BT.cnt {b : Nat} {v w : Int32} (h : z_BT T n b M N) (hR : 7 ≤ R) : z_BT T n b (sI M R 0 v) (sI N 366 42 w) :=
  h.fr (z_sIa _ _ _ _ (by omega)) (z_sIa _ _ _ _ (by omega)) (z_sIa _ _ _ _ (by omega)) (z_sIa _ _ _ _ (by omega)) (fun k hk => by rw [z_sIk _ _ _ _ (by omega)]) (z_sIa _ _ _ _ (by decide))
theorem g_read (hw : z_wt n T) : ∀ j t b M N A nm P m m2, t + j = 70 → 1 ≤ t → z_BT T n b M N → z_KW N → z_QB R A nm P M N → M.1 R 0 = nI t → N.1 366 42 = nI t → j < m → j + 2 ≤ m2 →
    ∃ v M' N', jsb (lp_Or_read_14 107 m (nI t) M) id z_rd = some (v, M') ∧ lp_Mo_opera_104 366 m2 N = some N' ∧ z_fin T n R A M N v M' N' := by
  intro j
  induction j with
  | zero =>
    intro t b M N A nm P m m2 ht _ hB hK hQ hc hc2 hm hm2
    obtain ⟨m, rfl⟩ : ∃ m', m = m' + 1 := ⟨m - 1, by omega⟩
    obtain ⟨m2, rfl⟩ : ∃ m', m2 = m' + 2 := ⟨m2 - 2, by omega⟩
    have ht : t = 70 := by omega
    subst ht
    obtain ⟨bm, bR, bT, a, bF⟩ := id hB
    obtain ⟨⟨v, Nq⟩, eq, vq, rq, xq⟩ := m_look hw bm.1 bF
    have vq : v = if z_sk T n b < n then nI (T (z_sk T n b)) else -1 := vq
    have rq : z_RF T n b (z_sk T n b) Nq := rq
    have xq : z_LX N Nq := xq
    have lk := z_lk (T := T) (b := b) hw bm.1
    rw [← vq] at lk
    have ec : jsb (lp_Or_read_14 107 (m + 1) (nI 70) M) id z_rd = z_rd M := by
      rw [lp_Or_read_14, if_neg (by decide)]; rfl
    have em : lp_Mo_opera_104 366 (m2 + 2) N = if v = -1 then some Nq else (f_Mo_statementTold 366 Nq).bind fun q18 => lp_Mo_opera_104 366 (m2 + 1) q18 := by
      rw [lp_Mo_opera_104, if_pos (z_bt5 hB), eq]; rfl
    rw [ec, em]
    unfold z_rd
    rw [c_isEnd bR]
    by_cases e0 : z_so T n b = 0
    · rw [if_pos e0, if_pos (lk.mpr e0)]
      exact ⟨1, M, Nq, rfl, rfl, z_Fr.rf, xq.yn.yo, Or.inl ⟨rfl, z_SF.rf, ⟨70, by decide, by decide, hc, (xq.2 42 (by decide)).trans hc2⟩, rq.2.2.2.2.2.1, rq.2.2.2.2.2.2.1, A, nm, P, rfl, hQ.re z_RE.rf xq⟩⟩
    · rw [if_neg e0, if_neg (fun e => e0 (lk.mp e))]
      refine ⟨0, sI (sI M 3 5 (nI 5)) 3 6 (nI (z_sk T n b)), sI (sI Nq 366 5 (nI 5)) 366 6 (nI (z_sk T n b)), ?_, ?_, ?_, ?_, ?_⟩
      · rw [bR.2.1]; rfl
      · have e42 : Nq.1 366 42 = 70 := (xq.2 42 (by decide)).trans hc2
        unfold f_Mo_statementTold
        rw [if_pos e42, rq.1, zl_5, m_fail (f := 5) rq.2.2.2.2.2.1]
        simp only [Option.bind_some]
        rw [lp_Mo_opera_104, if_neg ((z_MF.mk 5 _).bad (by decide) (by decide))]
      · exact (z_RE.rf.f.f).pe.wk (fun i q => ⟨q.1, q.2.1, q.2.2.1, q.2.2.2.1⟩)
      · exact (xq.f).yn.yo
      · exact Or.inr ⟨rfl, 5, _, z_CF.mk 5 _, by decide, by decide, z_MF.mk 5 _⟩
  | succ j ih =>
    intro t b M N A nm P m m2 ht ht1 hB hK hQ hc hc2 hm hm2
    obtain ⟨m, rfl⟩ : ∃ m', m = m' + 1 := ⟨m - 1, by omega⟩
    obtain ⟨m2, rfl⟩ : ∃ m', m2 = m' + 1 := ⟨m2 - 1, by omega⟩
    have hR := hQ.1
    obtain ⟨bm, bR, bT, a, bF⟩ := id hB
    obtain ⟨⟨v, Nq⟩, eq, vq, rq, xq⟩ := m_look hw bm.1 bF
    have vq : v = if z_sk T n b < n then nI (T (z_sk T n b)) else -1 := vq
    have rq : z_RF T n b (z_sk T n b) Nq := rq
    have xq : z_LX N Nq := xq
    have lk := z_lk (T := T) (b := b) hw bm.1
    rw [← vq] at lk
    have em : lp_Mo_opera_104 366 (m2 + 1) N = if v = -1 then some Nq else (f_Mo_statementTold 366 Nq).bind fun q18 => lp_Mo_opera_104 366 m2 q18 := by
      rw [lp_Mo_opera_104, if_pos (z_bt5 hB), eq]; rfl
    have ec : lp_Or_read_14 107 (m + 1) (nI t) M = if z_so T n b = 0 then some (.inr (1, M)) else (f_Or_takeStatement 107 M).bind fun q6 => if q6.1 = 0 then (some (.inr (0, q6.2))) else ((f_Re_takeSign 3 59 q6.2).bind fun q11 => if q11.1 = 0 then (some (.inr (0, q11.2))) else (lp_Or_read_14 107 m (nI t + 1) (sI q11.2 (jop (q11.2.1 107 2)) 0 ((q11.2.1 (jop (q11.2.1 107 2)) 0) + 1)))) := by
      rw [lp_Or_read_14, if_pos (show nI t < 70 from nI_lt (b := 70) (by omega) (by decide)), if_pos (show 0 < nI t from nI_lt (a := 0) (by omega) (by omega)), jp_107_0, c_isEnd bR]
      simp only [Option.bind_some]
      by_cases e0 : z_so T n b = 0
      · rw [if_pos e0, if_pos e0, if_neg z_10]
      · rw [if_neg e0, if_neg e0, if_pos rfl, if_neg (fun e : nI t = 0 => by have := (nI_eq (b := 0) (by omega) (by decide)).mp e; omega), Option.bind_assoc]
        rfl
    rw [em]
    by_cases e0 : z_so T n b = 0
    · rw [if_pos (lk.mpr e0)]
      refine ⟨1, M, Nq, ?_, rfl, z_Fr.rf, xq.yn.yo, Or.inl ⟨rfl, z_SF.rf, ⟨t, ht1, by omega, hc, (xq.2 42 (by decide)).trans hc2⟩, rq.2.2.2.2.2.1, rq.2.2.2.2.2.2.1, A, nm, P, rfl, hQ.re z_RE.rf xq⟩⟩
      rw [ec, if_pos e0]; rfl
    · rw [if_neg (fun e => e0 (lk.mp e))]
      rw [if_neg e0] at ec
      have hBq : z_BT T n b M Nq := ⟨bm, bR, bT, _, rq⟩
      have hKq := hK.lx xq
      have hQq := hQ.re (z_RE.rf (M := M)) xq
      have c42 : Nq.1 366 42 = nI t := (xq.2 42 (by decide)).trans hc2
      obtain ⟨q, N1, es, em1, hST⟩ := g_stm hw hBq rq.1 hKq hQq
      rw [m_stm (fun e => by rw [c42] at e; have := (nI_eq (b := 70) (by omega) (by decide)).mp e; omega), em1]
      simp only [Option.bind_some]
      rw [es] at ec
      simp only [Option.bind_some] at ec
      obtain ⟨w, M2, N2, ew, ea, C, Y, h3⟩ := g_semi hw hST
      rw [ea]
      simp only [Option.bind_some]
      have n42 : N2.1 366 42 = nI t := (Y.1 366 42 (by unfold z_pk; omega)).trans c42
      have YO := xq.yn.yo.tr (Y.yo.tr (z_YO.c (v := N2.1 366 42 + 1)))
      rcases h3 with ⟨w1, v1, ⟨b', B2⟩, S, A', nm', P', hA, hQ2⟩ | ⟨w0, F⟩
      · rw [v1, if_neg z_10] at ew
        rw [v1, if_neg z_10] at ec
        have cR : M2.1 R 0 = nI t := (C.2 (by omega)).trans hc
        have K2 := hKq.yo Y.yo
        cases hts : f_Re_takeSign 3 59 q.2 with
        | none => rw [hts] at ew; cases ew
        | some q11 =>
          rw [hts] at ew ec
          simp only [Option.bind_some] at ew ec
          have e11 : q11 = (w, M2) := by have := Option.some.inj ew; rw [← this]
          subst e11
          rw [w1] at ec
          rw [if_neg z_10, hQ2.2.1, cR, nI_1] at ec
          rw [ec, n42, nI_1]
          obtain ⟨v', M', N', r1, r2, r3, r4, r5⟩ := ih (t + 1) b' (sI M2 R 0 (nI (t + 1))) (sI N2 366 42 (nI (t + 1))) A' nm' P' m m2 (by omega) (by omega) (B2.cnt (by omega)) (K2.yo z_YO.c) hQ2.cnt (z_sIs _ _ _ _) (z_sIs _ _ _ _) (by omega) (by omega)
          have S2 : z_SF M (sI M2 R 0 (nI (t + 1))) := S.s (by omega)
          refine ⟨v', M', N', r1, r2, ?_, ?_, ?_⟩
          · exact (C.1.sI (by omega)).tr r3
          · rw [n42, nI_1] at YO
            exact YO.tr r4
          · rcases r5 with ⟨u1, u2, u3, u4, u5, A2, nm2, P2, u6, u7⟩ | r5
            · exact Or.inl ⟨u1, S2.tr u2, u3, u4, u5, A2, nm2, P2, u6.trans hA, u7⟩
            · exact Or.inr r5
      · have FB : (sI N2 366 42 (N2.1 366 42 + 1)).1 366 5 ≠ 0 := by rw [z_sIk _ _ _ _ (by decide)]; exact F.bad
        refine ⟨0, M2, sI N2 366 42 (N2.1 366 42 + 1), ?_, ?_, C.1, YO, Or.inr ⟨rfl, F.to z_SF.rf (z_sIk _ _ _ _ (by decide)) (z_sIk _ _ _ _ (by decide))⟩⟩
        · by_cases v0 : q.1 = 0
          · rw [if_pos v0] at ew ec
            rw [ec]
            have := Option.some.inj ew
            have e2 : q.2 = M2 := congrArg Prod.snd this
            rw [e2]; rfl
          · rw [if_neg v0] at ew ec
            cases hts : f_Re_takeSign 3 59 q.2 with
            | none => rw [hts] at ew; cases ew
            | some q11 =>
              rw [hts] at ew ec
              simp only [Option.bind_some] at ew ec
              have e11 : q11 = (w, M2) := by have := Option.some.inj ew; rw [← this]
              subst e11
              rw [w0] at ec
              rw [if_pos rfl] at ec
              rw [ec]; rfl
        · obtain ⟨m2, rfl⟩ : ∃ m', m2 = m' + 1 := ⟨m2 - 1, by omega⟩
          rw [lp_Mo_opera_104, if_neg FB]
end
