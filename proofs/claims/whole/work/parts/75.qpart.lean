/-! ===== pure: a part of a SUM, the reference ===== -/
theorem y_nf9 {T : Nat → Nat} {n b lo hi f p : Nat} (h : z_nf T n b lo hi = some (f, p)) : f < 100 := by
  unfold z_nf at h
  split at h
  · have := (Prod.mk.inj (Option.some.inj h)).1; omega
  · split at h
    · have := (Prod.mk.inj (Option.some.inj h)).1; omega
    · split at h
      · have := (Prod.mk.inj (Option.some.inj h)).1; omega
      · cases h
theorem y_nfb {T : Nat → Nat} {n b lo hi : Nat} (h : z_nf T n b lo hi = none) : z_so T n b = 2 ∧ lo ≤ z_nv T (z_sk T n b) (z_en T n b - z_sk T n b) ∧ z_nv T (z_sk T n b) (z_en T n b - z_sk T n b) ≤ hi := by
  unfold z_nf at h
  by_cases d1 : z_so T n b ≠ 2
  · rw [if_pos d1] at h; cases h
  · rw [if_neg d1] at h
    by_cases d2 : 4 < z_en T n b - z_sk T n b
    · rw [if_pos d2] at h; cases h
    · rw [if_neg d2] at h
      split at h
      · cases h
      · exact ⟨by omega, by omega, by omega⟩
theorem m_codeB {v : Int32} {k : Nat} {N : SM} (h : N.1 366 89 = nI k) (hk : k < 1700) : z_ok (f_Mo_qCode 366 v N) (fun N' => y_Y N N' ∧ N'.1 366 89 = nI (k + 1)) := by
  unfold f_Mo_qCode
  rw [jm_88, h, zs_426 _ hk]
  refine z_some ⟨(y_Y.rf.w (Or.inl rfl)).s (Or.inl rfl), ?_⟩
  rw [z_sIs, z_sIa _ _ _ _ (by decide), h, nI_1]
section
variable {T : Nat → Nat} {n b a B o o0 g f : Nat} {W K Q Lk W0 : List Nat} {N N' : SM}
/-- what y_it does -/
def y_IT (T : Nat → Nat) (n b B o : Nat) (W K : List Nat) (N : SM) (r : Int32 × SM) : Prop :=
  y_X N r.2 ∧ y_cb r.2 ∧
  ((z_sg T n b 40 ∧ o < 6 ∧ r.1 = 1 ∧ z_RF T n (z_en T n b) (z_en T n b) r.2 ∧ y_M B (o + 1) (20 :: W) K r.2) ∨
   (z_sg T n b 40 ∧ o = 6 ∧ z_MF 4 (z_sk T n b) r.2) ∨
   (∃ w, w < 2 ∧ y_wi T n b = some (8 + w) ∧ ¬ z_sg T n (z_en T n b) 40 ∧ z_MF 1 (z_sk T n (z_en T n b)) r.2) ∨
   (∃ w, w < 2 ∧ y_wi T n b = some (8 + w) ∧ z_sg T n (z_en T n b) 40 ∧ o = 6 ∧ z_MF 4 (z_sk T n (z_en T n b)) r.2) ∨
   (∃ w, w < 2 ∧ y_wi T n b = some (8 + w) ∧ z_sg T n (z_en T n b) 40 ∧ o < 6 ∧ r.1 = 1 ∧ z_RF T n (z_en T n (z_en T n b)) (z_en T n (z_en T n b)) r.2 ∧ y_M B (o + 1) ((21 + w) :: W) K r.2) ∨
   (∃ w, w < 2 ∧ y_wi T n b = some (6 + w) ∧ o = 6 ∧ z_MF 4 (z_sk T n b) r.2) ∨
   (∃ w, w < 2 ∧ y_wi T n b = some (6 + w) ∧ o < 6 ∧ r.1 = 1 ∧ z_RF T n (z_en T n b) (z_en T n b) r.2 ∧ y_M B (o + 1) ((60 + w) :: W) K r.2) ∨
   (¬ z_sg T n b 40 ∧ (∀ i, y_wi T n b = some i → i < 6) ∧ r.1 = 0 ∧ z_RF T n b (z_sk T n b) r.2 ∧ y_M B o W K r.2))
theorem y_mm_s {w : Nat} (hw2 : w < 2) (hw : z_wt n T) (hm : z_mb T n b) (h : z_RF T n b a N) (hK : z_KW N) (hM : y_M B o W K N) (ho : o ≤ 6) (hl : W.length < 1700) (hk : K.length < 1690) (e : y_wi T n b = some (8 + w)) : z_ok (y_mm N) (y_IT T n b B o W K N) := by
  have hen := z_en_s (T := T) hm.1
  have i8 : y_wi T n b = some 8 ↔ z_is T n b [109, 105, 110] := y_wi_is (i := 8) (by decide)
  have i9 : y_wi T n b = some 9 ↔ z_is T n b [109, 97, 120] := y_wi_is (i := 9) (by decide)
  -- which word
  have hd : ∃ v N1, ((f_Mo_takes 366 (jpf 366 78) N).bind fun q15 => ((if q15.1 = 0 then ((f_Mo_asks 366 (jpf 366 79) q15.2).bind fun q18 => some q18) else (some q15.2) : Option (SM)).bind fun q16 => some (q15.1, q16))) = some (v, N1) ∧ v = (if w = 0 then 1 else 0) ∧ z_RF T n (z_en T n b) (z_en T n b) N1 ∧ z_LX N N1 := by
    obtain ⟨⟨v, N1⟩, e1, x1, k⟩ := y_takes (p := (78, [109, 105, 110])) (by decide) hw hm h hK
    have x1 : z_LX N N1 := x1
    have e1 : f_Mo_takes 366 (jpf 366 78) N = some (v, N1) := e1
    rw [e1]
    simp only [Option.bind_some]
    rcases k with ⟨s, v1, r⟩ | ⟨s, v0, r⟩
    · have v1 : v = 1 := v1
      have w0 : w = 0 := by
        have := i8.mpr s
        rw [e] at this
        have := Option.some.inj this
        omega
      rw [v1, if_neg z_10]
      exact ⟨1, N1, rfl, by rw [if_pos w0], r, x1⟩
    · have v0 : v = 0 := v0
      have w1 : w = 1 := by
        have : w ≠ 0 := fun q => s (i8.mp (by rw [e, q]))
        omega
      subst w1
      obtain ⟨N2, e2, x2, k2⟩ := y_asks (p := (79, [109, 97, 120])) (by decide) hw hm r (hK.lx x1)
      have e2 : f_Mo_asks 366 (jpf 366 79) N1 = some N2 := e2
      rw [v0, if_pos rfl, e2]
      rcases k2 with ⟨_, r2⟩ | ⟨c, _⟩
      · exact ⟨0, N2, rfl, rfl, r2, x1.tr x2⟩
      · exact absurd (i9.mp e) c
  obtain ⟨v, N1, ed, vd, r1, x1⟩ := hd
  have hM1 := hM.lx x1
  obtain ⟨⟨c, N2⟩, e2, c2, r2, x2⟩ := m_look hw hen.2.1 r1
  have c2 : c = _ := c2
  have r2 : z_RF T n (z_en T n b) (z_sk T n (z_en T n b)) N2 := r2
  have x2 : z_LX N1 N2 := x2
  have hM2 := hM1.lx x2
  have lk := m_lkS hw hen.2.1 (c := 40) (by unfold z_al; omega) (by decide)
  rw [← c2] at lk
  have lk : c = 40 ↔ z_sg T n (z_en T n b) 40 := lk
  have ed' : y_mm N = (f_Mo_look 366 N1).bind fun q19 => (if q19.1 = 40 then (some (q19.2.1 366 2)) else (some (-1)) : Option (Int32)).bind fun q20 => (if q20 = (-1) then (some q19.2) else ((if v = 0 then (some 22) else (some 21) : Option (Int32)).bind fun q24 => (f_Mo_qOpens 366 q24 q20 q19.2).bind fun q26 => some q26) : Option (SM)).bind fun q22 => (f_Mo_asksSign 366 40 q22).bind fun q27 => some (1, q27) := by
    unfold y_mm
    cases t1 : f_Mo_takes 366 (jpf 366 78) N with
    | none => rw [t1] at ed; cases ed
    | some q15 =>
      rw [t1] at ed
      simp only [Option.bind_some] at ed ⊢
      cases t2 : (if q15.1 = 0 then ((f_Mo_asks 366 (jpf 366 79) q15.2).bind fun q18 => some q18) else (some q15.2) : Option (SM)) with
      | none => rw [t2] at ed; cases ed
      | some q16 =>
        rw [t2] at ed
        have ee := Option.some.inj ed
        have e1 : q15.1 = v := congrArg Prod.fst ee
        have e2 : q16 = N1 := congrArg Prod.snd ee
        simp only [Option.bind_some]
        rw [e1, e2]
  rw [ed', e2]
  simp only [Option.bind_some]
  by_cases s : z_sg T n (z_en T n b) 40
  · rw [if_pos (lk.mpr s), r2.1]
    simp only [Option.bind_some]
    have hs := z_sk_s (T := T) hen.2.1
    have hn := hw.1
    rw [if_neg (z_neg1 (n := z_sk T n (z_en T n b)) (by omega))]
    have ev : (if v = 0 then (some 22) else (some 21) : Option (Int32)) = some (nI (21 + w)) := by
      rw [vd]
      have : w = 0 ∨ w = 1 := by omega
      rcases this with rfl | rfl <;> rfl
    rw [ev]
    simp only [Option.bind_some]
    obtain ⟨N3, e3, k3⟩ := m_opens (x := 21 + w) (p := z_sk T n (z_en T n b)) hM2 r2.2.2.2.2.2.1 hl (by omega) ho
    rw [e3]
    simp only [Option.bind_some]
    rcases k3 with ⟨o6, m3, y3⟩ | ⟨o6, rfl⟩
    · obtain ⟨N4, e4, x4, k4⟩ := m_asksS (c := 40) hw hen.2.2.2 (r2.y y3) (by unfold z_al; omega) (by decide)
      rw [show (40 : Int32) = nI 40 from rfl, e4]
      rcases k4 with ⟨_, r4⟩ | ⟨q, _⟩
      · exact z_some ⟨((x1.tr x2).yx.tr y3.yx).tr x4.yx, (m3.lx x4).cb hk, Or.inr (Or.inr (Or.inr (Or.inr (Or.inl ⟨w, hw2, e, s, o6, rfl, r4, m3.lx x4⟩))))⟩
      · exact absurd s q
    · have mf := z_MF.mk (N := N2) 4 (z_sk T n (z_en T n b))
      rw [b_sign (mf.bad (by decide) (by decide))]
      exact z_some ⟨((x1.tr x2).f).yx, (hM.cb hk).lx (x1.tr x2).f, Or.inr (Or.inr (Or.inr (Or.inl ⟨w, hw2, e, s, o6, mf⟩)))⟩
  · rw [if_neg (fun q => s (lk.mp q))]
    simp only [Option.bind_some]
    rw [if_pos trivial]
    simp only [Option.bind_some]
    obtain ⟨N4, e4, x4, k4⟩ := m_asksS (c := 40) hw hen.2.2.2 r2 (by unfold z_al; omega) (by decide)
    rw [show (40 : Int32) = nI 40 from rfl, e4]
    rcases k4 with ⟨q, _⟩ | ⟨_, mf⟩
    · exact absurd q s
    · exact z_some ⟨((x1.tr x2).tr x4).yx, (hM.cb hk).lx ((x1.tr x2).tr x4), Or.inr (Or.inr (Or.inl ⟨w, hw2, e, s, mf⟩))⟩
theorem y_IT.lx {r : Int32 × SM} (x : z_LX N N') (h : y_IT T n b B o W K N' r) : y_IT T n b B o W K N r := ⟨x.yx.tr h.1, h.2⟩
theorem y_it_s (hw : z_wt n T) (hm : z_mb T n b) (h : z_RF T n b a N) (hK : z_KW N) (hM : y_M B o W K N) (ho : o ≤ 6) (hl : W.length < 1700) (hk : K.length < 1690) : z_ok (y_it N) (y_IT T n b B o W K N) := by
  have hb := hm.1
  have hen := z_en_s (T := T) hb
  have i8 : y_wi T n b = some 8 ↔ z_is T n b [109, 105, 110] := y_wi_is (i := 8) (by decide)
  have i9 : y_wi T n b = some 9 ↔ z_is T n b [109, 97, 120] := y_wi_is (i := 9) (by decide)
  unfold y_it
  obtain ⟨⟨c, N1⟩, e1, c1, r1, x1⟩ := m_look hw hb h
  have c1 : c = _ := c1
  have r1 : z_RF T n b (z_sk T n b) N1 := r1
  have x1 : z_LX N N1 := x1
  have lk := m_lkS hw hb (c := 40) (by unfold z_al; omega) (by decide)
  rw [← c1] at lk
  have lk : c = 40 ↔ z_sg T n b 40 := lk
  refine z_eq e1 ?_
  obtain ⟨⟨k, N2⟩, e2, k2, r2, x2⟩ := m_wordOf (lo := 6) (hi := 8) (by decide) (by decide) hw hm r1 (hK.lx x1)
  have k2 : k = _ := k2
  have r2 : z_RF T n b (z_sk T n b) N2 := r2
  have x2 : z_LX N1 N2 := x2
  refine z_eq (show f_Mo_qWordOf 366 6 8 N1 = _ from e2) ?_
  have x12 := x1.tr x2
  have hM2 := hM.lx x12
  have hK2 := hK.lx x12
  dsimp only
  by_cases s : z_sg T n b 40
  · rw [if_pos (lk.mpr s), r2.1]
    obtain ⟨N3, e3, k3⟩ := m_opens (x := 20) (p := z_sk T n b) hM2 r2.2.2.2.2.2.1 hl (by decide) ho
    rw [show (20 : Int32) = nI 20 from rfl, e3]
    simp only [Option.bind_some]
    rcases k3 with ⟨o6, m3, y3⟩ | ⟨o6, rfl⟩
    · have r3 := r2.y y3
      refine z_some ⟨(x12.yx.tr y3.yx).s (Or.inl rfl), m3.at.cb hk, Or.inl ⟨s, o6, rfl, ?_, m3.at⟩⟩
      rw [r3.1, nI_1]; exact z_RF.sg (c := 0) hm r3 s.1
    · exact z_some ⟨(x12.f).yx.s (Or.inl rfl), (hM.cb hk).lx (x12.f.s (Or.inl rfl)), Or.inr (Or.inl ⟨s, o6, (z_sIk _ _ _ _ (by decide)).trans ((z_sIk _ _ _ _ (by decide)).trans (z_sIs _ _ _ _)), (z_sIk _ _ _ _ (by decide)).trans (z_sIs _ _ _ _)⟩)⟩
  · rw [if_neg (fun q => s (lk.mp q))]
    refine z_bind (y_here (p := (78, [109, 105, 110])) (by decide) hw hm r2 hK2) (fun q8 h8 => ?_)
    obtain ⟨v8, r8, x8⟩ := h8
    rw [v8]
    by_cases s8 : z_is T n b [109, 105, 110]
    · rw [z_b1 s8]
      exact z_mono (y_mm_s (w := 0) (by decide) hw hm r8 (hK2.lx x8) (hM2.lx x8) ho hl hk (i8.mpr s8)) (fun r k => k.lx (x12.tr x8))
    · rw [z_b0 s8]
      refine z_bind (y_here (p := (79, [109, 97, 120])) (by decide) hw hm r8 (hK2.lx x8)) (fun q9 h9 => ?_)
      obtain ⟨v9, r9, x9⟩ := h9
      rw [v9]
      have x19 := (x12.tr x8).tr x9
      by_cases s9 : z_is T n b [109, 97, 120]
      · rw [z_b1 s9]
        exact z_mono (y_mm_s (w := 1) (by decide) hw hm r9 (hK.lx x19) (hM.lx x19) ho hl hk (i9.mpr s9)) (fun r k => k.lx x19)
      · rw [z_b0 s9]
        have no (hi : ∀ i, y_wi T n b = some i → i < 6) : y_IT T n b B o W K N (0, q9.2) := ⟨x19.yx, (hM.lx x19).cb hk, Or.inr (Or.inr (Or.inr (Or.inr (Or.inr (Or.inr (Or.inr ⟨s, hi, rfl, r9, hM.lx x19⟩))))))⟩
        cases ei : y_wi T n b with
        | none =>
          have kk : k = -1 := by rw [k2, ei]
          exact z_pos kk (z_some (no (fun i q => by rw [ei] at q; cases q)))
        | some i =>
          have hi10 := y_wi_lt ei
          have hi8 : i < 8 := by
            have : i ≠ 8 := fun q => s8 (i8.mp (by rw [ei, q]))
            have : i ≠ 9 := fun q => s9 (i9.mp (by rw [ei, q]))
            omega
          have kk : k = if 6 ≤ i ∧ i < 8 then nI i else -1 := by rw [k2, ei]
          by_cases c6 : 6 ≤ i
          · rw [if_pos ⟨c6, hi8⟩] at kk
            rw [kk, if_neg (z_neg1 (n := i) (by omega)), r9.1]
            have eo : (60 + nI i - 6 : Int32) = nI (60 + (i - 6)) := by
              rw [zl_60, zl_6, z_add, z_sub (by omega)]; congr 1; omega
            rw [eo]
            obtain ⟨N3, e3, k3⟩ := m_opens (x := 60 + (i - 6)) (p := z_sk T n b) (hM.lx x19) r9.2.2.2.2.2.1 hl (by omega) ho
            rw [e3]
            simp only [Option.bind_some]
            have ei' : y_wi T n b = some (6 + (i - 6)) := by rw [ei]; congr 1; omega
            rcases k3 with ⟨o6, m3, y3⟩ | ⟨o6, rfl⟩
            · obtain ⟨N4, e4, x4, r4⟩ := m_asksWord hi8 hw hm (r9.y y3) ((hK.lx x19).yx y3.yx) ei
              rw [e4]
              exact z_some ⟨(x19.yx.tr y3.yx).tr x4.yx, (m3.lx x4).cb hk, Or.inr (Or.inr (Or.inr (Or.inr (Or.inr (Or.inr (Or.inl ⟨i - 6, by omega, ei', o6, rfl, r4, m3.lx x4⟩))))))⟩
            · have mf := z_MF.mk (N := q9.2) 4 (z_sk T n b)
              have eb : f_Mo_qAsksWord 366 (nI i) (sI (sI q9.2 366 5 (nI 4)) 366 6 (nI (z_sk T n b))) = some (sI (sI q9.2 366 5 (nI 4)) 366 6 (nI (z_sk T n b))) := by
                have hb5 := mf.bad (by decide) (by decide)
                unfold f_Mo_qAsksWord
                simp only [b_asks hb5, Option.bind_some, ite_self]
              rw [eb]
              exact z_some ⟨(x19.f).yx, (hM.cb hk).lx x19.f, Or.inr (Or.inr (Or.inr (Or.inr (Or.inr (Or.inl ⟨i - 6, by omega, ei', o6, mf⟩)))))⟩
          · rw [if_neg (fun q => c6 q.1)] at kk
            rw [kk, if_pos rfl]
            exact z_some (no (fun j q => by rw [ei] at q; obtain rfl := Option.some.inj q; omega))
/-- and what stands behind it -/
theorem y_PR_s (hw : z_wt n T) (hm : z_mb T n b) (h : z_RF T n b a N) (hK : z_KW N) (hM : y_M B (o + Lk.length) (Lk ++ W0) K N) (hL : ∀ x, x ∈ Lk → 60 ≤ x) (hB : y_tp B W0) (hl : Lk.length + W0.length + K.length < 1680) (hi : ∀ i, y_wi T n b = some i → i < 6) :
    z_ok (y_PR N) (fun N' => y_X N N' ∧
      ((∃ i, i < 6 ∧ y_wi T n b = some i ∧ z_RF T n (z_en T n b) (z_en T n b) N' ∧ y_M B o W0 (Lk.reverse ++ ((40 + i) :: K)) N') ∨
       (z_nf T n b 0 9999 = none ∧ z_RF T n (z_en T n b) (z_en T n b) N' ∧ y_M B o W0 (Lk.reverse ++ ((1000 + z_nv T (z_sk T n b) (z_en T n b - z_sk T n b)) :: K)) N') ∨
       (y_wi T n b = none ∧ ∃ f p, z_nf T n b 0 9999 = some (f, p) ∧ 0 < f ∧ z_MF f p N' ∧ y_cb N'))) := by
  have hb := hm.1
  unfold y_PR
  refine z_pos h.2.2.2.2.2.1 ?_
  obtain ⟨⟨k, N2⟩, e2, k2, r2, x2⟩ := m_wordOf (lo := 0) (hi := 6) (by decide) (by decide) hw hm h hK
  have k2 : k = _ := k2
  have r2 : z_RF T n b (z_sk T n b) N2 := r2
  have x2 : z_LX N N2 := x2
  refine z_eq (show f_Mo_qWordOf 366 0 6 N = _ from e2) ?_
  dsimp only
  have fin : ∀ {x : Nat} {Na : SM}, x < 20000 → z_RF T n (z_en T n b) (z_en T n b) Na → z_LX N Na → z_ok ((f_Mo_qCode 366 (nI x) Na).bind fun q50 => (f_Mo_qEndsPart 366 q50).bind fun q51 => some q51) (fun N' => y_X N N' ∧ z_RF T n (z_en T n b) (z_en T n b) N' ∧ y_M B o W0 (Lk.reverse ++ (x :: K)) N') := by
    intro x Na hx ra xa
    refine z_bind (m_code (hM.lx xa) (by omega) hx) (fun N4 k4 => ?_)
    unfold f_Mo_qEndsPart
    rw [y_ob, y_ob]
    have r4 := ra.y k4.2
    refine z_mono (m_ends hB hL k4.1 r4.2.2.2.2.2.1 (by rw [List.length_cons]; omega) (by rw [z_jf]; omega)) (fun N5 k5 => ⟨xa.yx.tr (k4.2.tr k5.2).yx, r4.y k5.2, k5.1⟩)
  cases ei : y_wi T n b with
  | none =>
    rw [ei] at k2
    have k2 : k = -1 := k2
    rw [k2, if_pos rfl]
    simp only [Option.bind_some]
    rw [if_pos trivial]
    obtain ⟨⟨v, N3⟩, e3, x3, h3⟩ := m_num (lo := 0) (hi := 9999) hw hm r2 (by decide) (by decide)
    have x3 : z_LX N2 N3 := x3
    have e3' : f_Mo_number 366 0 9999 N2 = some (v, N3) := e3
    rw [e3']
    simp only [Option.bind_some]
    rcases h3 with ⟨nf, v1, r3, _⟩ | ⟨f, p, nf, f0, mf⟩
    · have v1 : v = _ := v1
      have hv := (y_nfb nf).2.2
      rw [v1, zl_1000, z_add]
      exact z_mono (fin (by omega) r3 (x2.tr x3)) (fun N' k => ⟨k.1, Or.inr (Or.inl ⟨nf, k.2.1, k.2.2⟩)⟩)
    · have bad : ¬ N3.1 366 5 = 0 := mf.bad f0 (y_nf9 nf)
      refine z_bind (m_codeB (k := K.length) ((hM.lx (x2.tr x3)).2.2.1) (by omega)) (fun N4 k4' => ?_)
      obtain ⟨k4, k89⟩ := k4'
      have mf4 := z_MF.y mf k4
      unfold f_Mo_qEndsPart
      rw [z_jf, y_ob, y_ob, lp_Mo_qEndsPart_0, if_neg (mf4.bad f0 (y_nf9 nf))]
      exact z_some ⟨(x2.tr x3).yx.tr k4.yx, Or.inr (Or.inr ⟨trivial, f, p, nf, f0, mf4, ⟨_, by omega, k89⟩⟩)⟩
  | some i =>
    have h6 := hi i ei
    rw [ei] at k2
    have k2 : k = nI i := by
      have : k = (if 0 ≤ i ∧ i < 6 then nI i else -1) := k2
      rw [this, if_pos ⟨Nat.zero_le _, h6⟩]
    rw [k2, if_neg (z_neg1 (n := i) (by omega))]
    obtain ⟨N3, e3, x3, r3⟩ := m_asksWord (i := i) (by omega) hw hm r2 (hK.lx x2) ei
    rw [e3]
    simp only [Option.bind_some]
    rw [if_neg (z_neg1 (n := i) (by omega))]
    simp only [Option.bind_some]
    rw [show (40 + nI i : Int32) = nI (40 + i) from z_add 40 i]
    exact z_mono (fin (x := 40 + i) (by omega) r3 (x2.tr x3)) (fun N' k => ⟨k.1, Or.inl ⟨i, h6, rfl, k.2.1, k.2.2⟩⟩)
theorem y_A_on {N1 : SM} (h5 : N.1 366 5 = 0) (e : y_it N = some (1, N1)) : y_A (g + 1) f N = y_A g f N1 := by
  unfold y_A
  rw [y_lp1 h5, e]; rfl
theorem y_A_bad {v : Int32} {N1 : SM} (h5 : N.1 366 5 = 0) (e : y_it N = some (v, N1)) (hb : ¬ N1.1 366 5 = 0) : y_A (g + 2) (f + 1) N = some N1 := by
  unfold y_A
  rw [show g + 2 = (g + 1) + 1 from rfl, y_lp1 h5, e]
  simp only [Option.bind_some]
  rw [y_ptbad hb]
  simp only [Option.bind_some]
  rw [y_PRb hb]
  exact y_PS1 hb
theorem y_A_out {N1 N2 : SM} (h5 : N.1 366 5 = 0) (e : y_it N = some (0, N1)) (e2 : y_PR N1 = some N2) : y_A (g + 2) f N = y_PS f N2 := by
  unfold y_A
  rw [show g + 2 = (g + 1) + 1 from rfl, y_lp1 h5, e]
  simp only [Option.bind_some]
  rw [lp_Mo_qPartTold_2, if_pos rfl]
  simp only [Option.bind_some]
  rw [e2]; rfl
end
