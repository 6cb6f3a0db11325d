/-! ===== pure: STATEMENTS, both ===== -/
/-- the strings of the class by their letters -/
theorem z_str_at : jsln 1002 = nI ([97, 116] : List Nat).length ∧ (∀ i, i < ([97, 116] : List Nat).length → jsch 1002 (nI (0 + i)) = some (nI (([97, 116] : List Nat).getD i 0))) := by decide +kernel
section
variable {T : Nat → Nat} {n b R : Nat} {A : ZA} {nm : Nat → Nat → Nat} {P : ZP} {M N M1 N1 M' N' : SM}
theorem g_ask (hw : z_wt n T) (h : z_BT T n b M N) (hK : z_KW N) {a : Nat} {p : Nat × List Nat} (hp : p ∈ z_wl) (hL : jsln a = nI p.2.length ∧ ∀ i, i < p.2.length → jsch a (nI (0 + i)) = some (nI (p.2.getD i 0))) :
    z2 (f_Re_takeWord 3 a M) (f_Mo_asks 366 (jpf 366 p.1) N) (fun q N' => z_RE M q.2 ∧ z_LX N N' ∧ ((q.1 = 1 ∧ z_BT T n (z_en T n b) q.2 N' ∧ z_SF M q.2) ∨ (q.1 = 0 ∧ z_FF q.2 N' ∧ z_av n N'))) := by
  obtain ⟨s1, s2, s3, s4, _⟩ := z_wl_s p hp
  refine z2_mono (g_word hw h hL.1 s2 hL.2 s3 s1 (hK p hp) s4) (fun q N' hq => ⟨hq.1, hq.2.1, ?_⟩)
  rcases hq.2.2 with q2 | q2
  · exact Or.inl ⟨q2.1, q2.2.1, q2.2.2.1⟩
  · exact Or.inr q2
/-- a CELL -/
theorem g_cellTold (hw : z_wt n T) (h : z_BT T n b M N) (hQ : z_QB R A nm P M N) :
    z2 (f_Or_takeCell 107 M) (f_Mo_cellTold 366 N) (fun q r => z_RE M q.2 ∧ z_LX N r.2 ∧ ((∃ v, q.1 = nI v ∧ r.1 = nI v ∧ v < A 0 0 ∧ z_BT T n (z_en T n b) q.2 r.2 ∧ z_SF M q.2) ∨ (q.1 = -1 ∧ z_FF q.2 r.2 ∧ z_av n r.2))) := by
  have hb := hQ.2.2.1.b rfl
  have hO := hQ.2.2.1.oc rfl
  have h30 : N.1 366 30 = nI (A 0 0) := (hQ.2.2.1 0 0 (by decide) (by decide) (show 0 < 7 by decide)).2.1
  unfold f_Or_takeCell f_Mo_cellTold
  rw [hQ.2.1, hO.1, jp_107_0, h30, zl_1, z_sub (by omega)]
  refine z2_b (g_num (lo := 0) hw h (by decide) (by omega)) (fun q r hq => z2_some ⟨hq.1, hq.2.1, ?_⟩)
  rcases hq.2.2 with ⟨v, q1, q2, q3, q4, q5, q6, _⟩ | q2
  · exact Or.inl ⟨v, q1, q2, by omega, q5, q6⟩
  · exact Or.inr q2
theorem z_RE.yc (h : z_RE M M') : z_YC R M M' := h.pe.yc
theorem z_m1 : (-1 : Int32) < 0 := by decide
theorem z_lt0n {v : Nat} (hv : v < 10000) : ¬ nI v < 0 := nI_pos (by omega)
/-- bed, water -/
theorem g_grd (hw : z_wt n T) (h : z_BT T n b M N) (hK : z_KW N) (hQ : z_QB R A nm P M N) {j most : Nat} {fl : Int32} (hj : (j = 1 ∧ most = 9 ∧ fl = 1) ∨ (j = 2 ∧ most = 99 ∧ fl = 0)) :
    z2 (f_Or_takeGround 107 (R + j) (nI most) M) (f_Mo_cellIsTold 366 fl N) (fun q N' => z_ST T n R A M N q.1 q.2 N') := by
  have hb := hQ.2.2.1.b rfl
  have hm : most < 100 := by omega
  unfold f_Or_takeGround f_Mo_cellIsTold
  rw [jp_107_0, jm_12]
  refine z2_r (r := nI most) (by rcases hj with ⟨_, rfl, rfl⟩ | ⟨_, rfl, rfl⟩ <;> rfl) ?_
  refine z2_b (g_num (lo := 0) hw h (by decide) (by omega)) (fun q r hq => ?_)
  obtain ⟨q0, r0, hq⟩ := hq
  rcases hq with ⟨v, q1, q2, q3, q4, q5, q6, _⟩ | ⟨q1, q2, _⟩
  · rw [q1]
    refine z2_ln (z_lt0n (by omega)) ?_
    have hQ1 := hQ.re q0 r0
    refine z2_b (g_ask hw q5 (hK.lx r0) (p := (12, [97, 116])) (by decide) z_str_at) (fun s N2 hs => ?_)
    obtain ⟨s0, t0, hs⟩ := hs
    rcases hs with ⟨s1, s2, s3⟩ | ⟨s1, s2, _⟩
    · rw [s1]
      refine z2_ln z_10 ?_
      have hQ2 := hQ1.re s0 t0
      refine z2_b (g_cellTold hw s2 hQ2) (fun u w hu => ?_)
      obtain ⟨u0, w0, hu⟩ := hu
      rcases hu with ⟨c, u1, u2, u3, u4, u5⟩ | ⟨u1, u2, _⟩
      · have hQ3 := hQ2.re u0 w0
        have w5 : w.2.1 366 5 = 0 := by obtain ⟨_, _, _, a, r⟩ := u4; exact r.2.2.2.2.2.1
        rw [u1, u2, q2]
        refine z2_ln (z_lt0n (by omega)) (z2_rp w5 ?_)
        have C : z_YC R M u.2 := (q0.yc.tr s0.yc).tr u0.yc
        have Y : z_YN N w.2 := (r0.yn.tr t0.yn).tr w0.yn
        have S : z_SF M u.2 := (q6.tr s3).tr u5
        have hR := hQ.1
        rcases hj with ⟨rfl, rfl, rfl⟩ | ⟨rfl, rfl, rfl⟩
        · refine z2_rn z_10 ?_
          rw [jm_32]
          refine z2_l (zpo_1 hR _ (by omega)) (z2_r (zs_387 _ (by omega)) (z2_some ?_))
          exact z_ST.up (i := 1) (k := c) (v := v) hQ3 u4 C Y S (by decide) (by omega) (by omega) (by show v ≤ 9; omega) (by show c < 12; omega)
        · refine z2_rp rfl ?_
          rw [jm_33]
          refine z2_l (zpo_2 hR _ (by omega)) (z2_r (zs_388 _ (by omega)) (z2_some ?_))
          exact z_ST.up (i := 2) (k := c) (v := v) hQ3 u4 C Y S (by decide) (by omega) (by omega) (by show v ≤ 99; omega) (by show c < 12; omega)
      · rw [u1]
        refine z2_lp z_m1 (z2_rn u2.bad (z2_some (z_ST.ff ((q0.yc.tr s0.yc).tr u0.yc) ((r0.yn.tr t0.yn).tr w0.yn) u2)))
    · rw [s1]
      refine z2_lp rfl (z2_r (b_cell s2.bad) (z2_rn s2.bad (z2_some (z_ST.ff (q0.yc.tr s0.yc) (r0.yn.tr t0.yn) s2))))
  · rw [q1]
    refine z2_lp z_m1 (z2_r (b_asks q2.bad) (z2_r (b_cell q2.bad) (z2_rn q2.bad (z2_some (z_ST.ff q0.yc r0.yn q2)))))
/-- the pit -/
theorem g_pit (hw : z_wt n T) (h : z_BT T n b M N) (hQ : z_QB R A nm P M N) :
    z2 (f_Or_takePit 107 M) ((f_Mo_cellTold 366 N).bind fun q27 => (aS q27.2 (jpf 366 40) 0 q27.1).bind fun M28 => some M28) (fun q N' => z_ST T n R A M N q.1 q.2 N') := by
  have hb := hQ.2.2.1.b rfl
  unfold f_Or_takePit
  rw [jm_40]
  refine z2_b (g_cellTold hw h hQ) (fun u w hu => ?_)
  obtain ⟨u0, w0, hu⟩ := hu
  refine z2_r (zs_395 _ (k := 0) (by decide)) ?_
  rcases hu with ⟨c, u1, u2, u3, u4, u5⟩ | ⟨u1, u2, _⟩
  · have hQ3 := hQ.re u0 w0
    rw [u1, u2]
    refine z2_ln (z_lt0n (by omega)) (z2_some ?_)
    rw [hQ3.2.1]
    exact z_ST.up (i := 0) (k := 1) (v := c) hQ3 u4 u0.yc w0.yn u5 (by decide) (by decide) (by omega) ⟨fun e => by omega, fun _ => u3, fun e => by omega, fun e => by omega, fun e => by omega⟩ (by decide)
  · rw [u1]
    refine z2_lp z_m1 (z2_some (z_ST.ff u0.yc (w0.yn.s (z_pn (by decide) (by decide) (by decide))) (u2.st (by decide))))
/-- the bank -/
theorem g_bank (hw : z_wt n T) (h : z_BT T n b M N) (hQ : z_QB R A nm P M N) :
    z2 (f_Or_takeBank 107 M) ((f_Mo_number 366 1 99 N).bind fun q21 => (aS q21.2 (jpf 366 41) 0 q21.1).bind fun M22 => some M22) (fun q N' => z_ST T n R A M N q.1 q.2 N') := by
  unfold f_Or_takeBank
  rw [jm_41, jp_107_0]
  refine z2_b (g_num (lo := 1) (hi := 99) hw h (by decide) (by decide)) (fun u w hu => ?_)
  obtain ⟨u0, w0, hu⟩ := hu
  refine z2_r (zs_396 _ (k := 0) (by decide)) ?_
  rcases hu with ⟨c, u1, u2, u3, u4, u5, u6, _⟩ | ⟨u1, u2, _⟩
  · have hQ3 := hQ.re u0 w0
    rw [u1, u2]
    refine z2_ln (z_lt0n (by omega)) (z2_some ?_)
    rw [hQ3.2.1]
    exact z_ST.up (i := 0) (k := 2) (v := c) hQ3 u5 u0.yc w0.yn u6 (by decide) (by decide) (by omega) ⟨fun e => by omega, fun e => by omega, fun _ => ⟨u3, u4⟩, fun e => by omega, fun e => by omega⟩ (by decide)
  · rw [u1]
    refine z2_lp z_m1 (z2_some (z_ST.ff u0.yc (w0.yn.s (z_pn (by decide) (by decide) (by decide))) (u2.st (by decide))))
/-- a sluice -/
theorem g_sluice (hw : z_wt n T) (h : z_BT T n b M N) (hQ : z_QB R A nm P M N) :
    z2 (f_Or_takeSluice 107 M) (f_Mo_sluiceTold 366 N) (fun q N' => z_ST T n R A M N q.1 q.2 N') := by
  have hb := hQ.2.2.1.b rfl
  have hO := hQ.2.2.1.oc rfl
  have hR := hQ.1
  have h30 : N.1 366 30 = nI (A 0 0) := (hQ.2.2.1 0 0 (by decide) (by decide) (show 0 < 7 by decide)).2.1
  obtain ⟨hm, hRd, hT, a', hF⟩ := id h
  obtain ⟨⟨x, M1⟩, ec, q0, c2⟩ := c_num (lo := 0) (hi := A 0 0 - 2) hw hT hm.1 hRd (by decide) (by omega)
  obtain ⟨⟨y, N1⟩, em, r0, m2⟩ := m_num (lo := 0) (hi := A 0 0 - 1) hw hm hF (by decide) (by omega)
  dsimp only at q0 c2 r0 m2
  have hQ1 := hQ.re q0 r0
  have h31 : N1.1 366 30 = nI (A 0 0) := (hQ1.2.2.1 0 0 (by decide) (by decide) (show 0 < 7 by decide)).2.1
  have ecell : f_Mo_cellTold 366 N = some (y, N1) := by
    unfold f_Mo_cellTold
    rw [h30, zl_1, z_sub (by omega), zl_0, em]; rfl
  have eC : f_Or_takeSluice 107 M = (if x < 0 then (some (0, M1)) else ((f_Sp_at (R + 3) x M1).bind fun q3 => if q3 = 1 then ((f_Re_fail 3 2 (nI (z_sk T n b)) M1).bind fun q5 => (bchk q5.1).bind fun b6 => some (b6, q5.2)) else ((f_Sp_put (R + 3) x 1 M1).bind fun q7 => some (1, q7)))) := by
    unfold f_Or_takeSluice
    rw [hQ.2.1, hO.1, jp_107_0, zl_2, z_sub (by omega), zl_0, ec, hRd.2.1]
    simp only [Option.bind_some]
    rw [hQ1.2.1, jo_7 hR]
  have eM : f_Mo_sluiceTold 366 N = (if (N1.1 366 5) = 0 then (if y = nI (A 0 0 - 1) then ((f_Mo_fail 366 2 (N1.1 366 9) N1).bind fun q5 => some q5) else ((aI N1 389 y).bind fun v6 => if v6 = 1 then ((f_Mo_fail 366 2 (N1.1 366 9) N1).bind fun q8 => some q8) else (some N1))) else (some N1) : Option (SM)).bind fun q2 => if (q2.1 366 5) = 0 then ((aS q2 389 y 1).bind fun M10 => some M10) else (some q2) := by
    unfold f_Mo_sluiceTold
    rw [ecell]
    simp only [Option.bind_some]
    rw [h31, zl_1, z_sub (by omega), jm_34]
  rw [eC, eM]
  -- a FAULT of both
  have bad : ∀ {f p : Nat}, x = -1 → z_CF f p M1 → 0 < f → f < 100 → z_MF f p N1 → z2 (if x < 0 then (some ((0 : Int32), M1)) else ((f_Sp_at (R + 3) x M1).bind fun q3 => if q3 = 1 then ((f_Re_fail 3 2 (nI (z_sk T n b)) M1).bind fun q5 => (bchk q5.1).bind fun b6 => some (b6, q5.2)) else ((f_Sp_put (R + 3) x 1 M1).bind fun q7 => some (1, q7)))) ((if (N1.1 366 5) = 0 then (if y = nI (A 0 0 - 1) then ((f_Mo_fail 366 2 (N1.1 366 9) N1).bind fun q5 => some q5) else ((aI N1 389 y).bind fun v6 => if v6 = 1 then ((f_Mo_fail 366 2 (N1.1 366 9) N1).bind fun q8 => some q8) else (some N1))) else (some N1) : Option (SM)).bind fun q2 => if (q2.1 366 5) = 0 then ((aS q2 389 y 1).bind fun M10 => some M10) else (some q2)) (fun q N' => z_ST T n R A M N q.1 q.2 N') := by
    intro f p e1 e2 e3 e4 e5
    have F : z_FF M1 N1 := ⟨f, p, e2, e3, e4, e5⟩
    rw [e1]
    exact z2_lp z_m1 (z2_r (r := N1) (if_neg F.bad) (z2_rn F.bad (z2_some (z_ST.ff q0.yc r0.yn F))))
  generalize hv : z_nv T (z_sk T n b) (z_en T n b - z_sk T n b) = v at *
  unfold z_nf at c2 m2
  rw [hv] at c2 m2
  by_cases s : z_so T n b = 2
  · rw [if_neg (fun e => e s)] at c2 m2
    by_cases l4 : 4 < z_en T n b - z_sk T n b
    · rw [if_pos l4] at c2 m2
      rcases c2 with ⟨e, _⟩ | ⟨f, p, e, e1, e2⟩
      · cases e
      · rcases m2 with ⟨x, _⟩ | ⟨f', p', x, x1, x2⟩
        · cases x
        · cases e; cases x
          exact bad e1 e2 (by decide) (by decide) x2
    · rw [if_neg l4] at c2 m2
      by_cases big : A 0 0 - 1 < v
      · rw [if_pos (Or.inr (by omega))] at c2
        rw [if_pos (Or.inr big)] at m2
        rcases c2 with ⟨e, _⟩ | ⟨f, p, e, e1, e2⟩
        · cases e
        · rcases m2 with ⟨x, _⟩ | ⟨f', p', x, x1, x2⟩
          · cases x
          · cases e; cases x
            exact bad e1 e2 (by decide) (by decide) x2
      · rw [if_neg (by omega)] at m2
        rcases m2 with ⟨_, x1, x2, x3⟩ | ⟨f', p', x, _⟩
        · have r5 : N1.1 366 5 = 0 := x2.2.2.2.2.2.1
          by_cases last : v = A 0 0 - 1
          · rw [if_pos (Or.inr (by omega))] at c2
            rcases c2 with ⟨e, _⟩ | ⟨f, p, e, e1, e2⟩
            · cases e
            · cases e
              have F : z_FF M1 (sI (sI N1 366 5 (nI 2)) 366 6 (nI (z_sk T n b))) := ⟨2, _, e2, by decide, by decide, z_MF.mk 2 _⟩
              rw [e1, x1, last, x3]
              refine z2_lp z_m1 (z2_r (r := sI (sI N1 366 5 (nI 2)) 366 6 (nI (z_sk T n b))) ?_ (z2_rn F.bad (z2_some (z_ST.ff q0.yc ((r0.yn.s (z_pf (by decide))).s (z_pf (by decide))) F))))
              rw [if_pos r5, if_pos rfl, zl_2, m_fail (f := 2) r5]; rfl
          · rw [if_neg (by omega)] at c2
            rcases c2 with ⟨_, e1, e2, e3⟩ | ⟨f, p, e, _⟩
            · have hlt : v < A 0 0 - 1 := by omega
              have sl := hQ1.2.2.1 3 v (by decide) (by omega) (show v < A 0 0 by omega)
              have slc : M1.1 (R + 3) v = nI (A 3 v) := sl.1
              have slm : N1.1 389 v = nI (A 3 v) := sl.2.1
              have slb : A 3 v ≤ 1 := sl.2.2
              have nl : ¬ nI v = nI (A 0 0 - 1) := fun e => last ((nI_eq (by omega) (by omega)).mp e)
              rw [e1, x1, x3]
              refine z2_ln (z_lt0n (by omega)) (z2_l (zao_3 hR _ (by omega)) ?_)
              rw [slc]
              by_cases one : A 3 v = 1
              · have F : z_FF (sI (sI M1 3 5 (nI 2)) 3 6 (nI (z_sk T n b))) (sI (sI N1 366 5 (nI 2)) 366 6 (nI (z_sk T n b))) := ⟨2, _, z_CF.mk 2 _, by decide, by decide, z_MF.mk 2 _⟩
                refine z2_lp (by rw [one]; rfl) (z2_l (r := (0, sI (sI M1 3 5 (nI 2)) 3 6 (nI (z_sk T n b)))) rfl (z2_l (z_bchk (Or.inl rfl)) ?_))
                refine z2_r (r := sI (sI N1 366 5 (nI 2)) 366 6 (nI (z_sk T n b))) ?_ (z2_rn F.bad (z2_some (z_ST.ff q0.f.f.yc ((r0.yn.s (z_pf (by decide))).s (z_pf (by decide))) F)))
                rw [if_pos r5, if_neg nl, zi_389 _ (by omega)]
                simp only [Option.bind_some]
                rw [slm, if_pos (by rw [one]; rfl), zl_2, m_fail (f := 2) r5]; rfl
              · have n1 : ¬ nI (A 3 v) = 1 := fun e => one ((nI_eq (b := 1) (by omega) (by decide)).mp e)
                refine z2_ln n1 (z2_l (zpo_3 hR _ (by omega)) ?_)
                refine z2_r (r := N1) ?_ (z2_rp r5 (z2_r (zs_389 _ (by omega)) (z2_some ?_)))
                · rw [if_pos r5, if_neg nl, zi_389 _ (by omega)]
                  simp only [Option.bind_some]
                  rw [slm, if_neg n1]
                · exact z_ST.up (i := 3) (k := v) (v := 1) hQ1 ⟨(z_en_s hm.1).2.2.2, e2, hT.re q0, _, x2⟩ q0.yc r0.yn e3 (by decide) (by omega) (by omega) (by show 1 ≤ 1; omega) (by show v < 12; omega)
            · cases e
        · cases x
  · rw [if_pos s] at c2 m2
    rcases c2 with ⟨e, _⟩ | ⟨f, p, e, e1, e2⟩
    · cases e
    · rcases m2 with ⟨x, _⟩ | ⟨f', p', x, x1, x2⟩
      · cases x
      · cases e; cases x
        exact bad e1 e2 (by decide) (by decide) x2
end
