/-! ===== pure: mark, undo ===== -/
def z_CH (o : Nat) (A : ZA) (nm : Nat → Nat → Nat) (P : ZP) (M : SM) : Prop :=
  (o = 7 ∨ o = 57) ∧ jop (M.1 0 8) = o ∧ z_OC o A M ∧ z_TC o (A 0 3) P M ∧
  (∀ i w, i < 3 → w < A 0 (3 + i) → ∀ k, k < 6 → M.1 (o + 6 + (8 * i + w)) k = nI (if nm (8 * i + w) k = 0 then 0 else nm (8 * i + w) k + 96))
def z_MH (A : ZA) (nm : Nat → Nat → Nat) (P : ZP) (M : SM) : Prop :=
  z_OR A M ∧ z_TR (A 0 3) P M ∧ z_NS M ∧
  (∀ i w, i < 3 → w < A 0 (3 + i) → M.2 386 (24 + 8 * i + w) = lN (z_EN nm (8 * i + w)))
def z_AK (M M' : SM) : Prop := z_Fr (fun i => i < 7 ∨ 321 < i) M M'
def z_BK (N N' : SM) : Prop := z_Fr (fun i => i ≠ 366 ∧ i ≠ 391 ∧ (i < 399 ∨ 404 < i)) N N' ∧ ∀ k, k < 54 ∨ (58 < k ∧ k ≠ 63 ∧ k ≠ 64) → N'.1 366 k = N.1 366 k
theorem z_BK.tr {M M' M'' : SM} (h : z_BK M M') (k : z_BK M' M'') : z_BK M M'' := ⟨h.1.tr k.1, fun i p => (k.2 i p).trans (h.2 i p)⟩
theorem z_BK.rf {M : SM} : z_BK M M := ⟨z_Fr.rf, fun _ _ => rfl⟩
theorem z_LK.bk {M M' : SM} (h : z_LK M M') : z_BK M M' := ⟨h.1.wk (fun i q => by omega), fun k q => h.2 k (by omega)⟩
/-- opera, PARTS, ACTS, of both -/
def z_K (o : Nat) (A : ZA) (nm : Nat → Nat → Nat) (P : ZP) (G : Nat → ZP) (hn : Nat) (M N : SM) : Prop :=
  z_WB A nm P ∧ z_CB o A nm P M ∧ z_MB A nm P N ∧ G 0 = P ∧ (∀ j, j ≤ hn → z_WP (A 0 3) (G j)) ∧ z_HC (A 0 3) G hn M ∧ z_HR (A 0 3) G hn N
section
variable {o : Nat} {A : ZA} {nm : Nat → Nat → Nat} {P P' : ZP} {M N : SM} {d hn : Nat} {G : Nat → ZP}
theorem c_replay (hW : z_WB A nm P) (h0 : 0 < A 0 0) (h : z_CH o A nm P M) : z_ok (f_Ru_playAll 132 o 319 M) (fun M' => z_CB o A nm P M' ∧ z_Fr (fun i => i < 134 ∨ 321 < i) M M') := by
  obtain ⟨h1, h2, h3, h4, h5⟩ := h
  refine z_mono (c_playAll h1 hW.1 (hW.2.2.1 h0) h3 hW.2.1 h4) (fun M' hM => ⟨⟨h1, ?_, h3.fr (fun i a b => hM.2.1 i (by omega)), h4.fr hW.1.2.1 (fun i a b => hM.2.1 i (by omega)), fun _ => hM.1, fun i w hi hw k hk => ?_⟩, hM.2⟩)
  · rw [hM.2.1 0 (by omega)]; exact h2
  · have hd := hW.1.2.1
    have hm := hW.1.2.2.1
    have hbt := hW.1.2.2.2.1
    have : w < 8 := by
      match i, hi with
      | 0, _ => exact Nat.lt_of_lt_of_le hw hd
      | 1, _ => exact Nat.lt_of_lt_of_le hw (Nat.le_trans hm (by decide))
      | 2, _ => exact Nat.lt_of_lt_of_le hw (Nat.le_trans hbt (by decide))
      | i + 3, h => omega
    rw [hM.2.1 _ (by omega)]; exact h5 i w hi hw k hk
theorem m_replay (hW : z_WB A nm P) (h0 : 0 < A 0 0) (h : z_MH A nm P N) : z_ok (f_Mo_plays 366 N) (fun N' => z_MB A nm P N' ∧ z_LK N N') := by
  obtain ⟨h1, h2, h3, h4⟩ := h
  refine z_mono (m_plays hW.1 (hW.2.2.1 h0) h1 hW.2.1 h2 h3) (fun N' hN => ⟨⟨h1.lk hN.2, h2.lk hN.2, fun _ => hN.1, ⟨(hN.2.2 47 (by decide)).trans h3.1, (hN.2.2 48 (by decide)).trans h3.2.1, (hN.2.2 50 (by decide)).trans h3.2.2⟩, fun i w hi hw => ?_⟩, hN.2⟩)
  rw [hN.2.1.2]; exact h4 i w hi hw
theorem z_CB.ch (h : z_CB o A nm P M) : z_CH o A nm P M := ⟨h.1, h.2.1, h.2.2.1, h.2.2.2.1, h.2.2.2.2.2⟩
theorem z_MB.mh (h : z_MB A nm P N) : z_MH A nm P N := ⟨h.1, h.2.1, h.2.2.2.1, h.2.2.2.2⟩
theorem z_w8 (hW : z_WB A nm P) {i w : Nat} (hi : i < 3) (hw : w < A 0 (3 + i)) : w < 8 := by
  have hd := hW.1.2.1
  have hm := hW.1.2.2.1
  have hbt := hW.1.2.2.2.1
  match i, hi with
  | 0, _ => exact Nat.lt_of_lt_of_le hw hd
  | 1, _ => exact Nat.lt_of_lt_of_le hw (Nat.le_trans hm (by decide))
  | 2, _ => exact Nat.lt_of_lt_of_le hw (Nat.le_trans hbt (by decide))
  | i + 3, h => omega
/-- PARTS are others, the opera's own rows stay -/
theorem z_CH.to {M' : SM} (hW : z_WB A nm P) (h : z_CH o A nm P M) (k0 : M'.1 0 8 = M.1 0 8) (k : ∀ i, o ≤ i → i < o + 40 → M'.1 i = M.1 i) (hT : z_TC o (A 0 3) P' M') : z_CH o A nm P' M' := by
  obtain ⟨h1, h2, h3, h4, h5⟩ := h
  exact ⟨h1, by rw [k0]; exact h2, h3.fr k, hT, fun i w hi hw j hj => by have := z_w8 hW hi hw; rw [k _ (by omega) (by omega)]; exact h5 i w hi hw j hj⟩
theorem z_MH.to {N' : SM} (h : z_MH A nm P N) (k : z_BK N N') (hT : z_TR (A 0 3) P' N') : z_MH A nm P' N' := by
  obtain ⟨h1, h2, h3, h4⟩ := h
  exact ⟨h1.fr (k.2 31 (by decide)) (fun i a b c => k.1.1 i (by omega)), hT, ⟨(k.2 47 (by decide)).trans h3.1, (k.2 48 (by decide)).trans h3.2.1, (k.2 50 (by decide)).trans h3.2.2⟩, fun i w hi hw => by rw [k.1.2]; exact h4 i w hi hw⟩
theorem z_WB.to (h : z_WB A nm P) (hP : z_WP (A 0 3) P') : z_WB A nm P' := ⟨h.1, hP, h.2.2⟩
/-- one ACT more: what the class's keep did, whatever came of the DESK then -/
theorem z_HC.push {n nx : Nat} {M1 M2 : SM} (hnx : nx < 20) (hd : d < n) (hH : hn ≤ 20 ∧ ∀ j, j < hn → ∃ d, d < n ∧ M.1 109 ((nx + 19 - j) % 20) = nI d ∧ M.1 110 ((nx + 19 - j) % 20) = nI ((G (j + 1)).1 d) ∧ (∀ b, 1 ≤ b → b ≤ 60 → M.1 (112 + (nx + 19 - j) % 20) (b - 1) = nI (z_pa (G (j + 1)) d b)) ∧ ∀ e, e < n → e ≠ d → z_sa (G (j + 1)) (G j) e)
    (hM : z_Fr (fun i => i ≠ 108 ∧ i ≠ 109 ∧ i ≠ 110 ∧ i ≠ 112 + nx) M M1 ∧ M1.1 108 3 = nI ((nx + 1) % 20) ∧ M1.1 108 4 = nI (min 20 (hn + 1)) ∧ M1.1 109 nx = nI d ∧ (∀ j, j ≠ nx → M1.1 109 j = M.1 109 j) ∧ M1.1 110 nx = nI ((G 0).1 d) ∧ (∀ j, j ≠ nx → M1.1 110 j = M.1 110 j) ∧ (∀ b, 1 ≤ b → b ≤ 60 → M1.1 (112 + nx) (b - 1) = nI (z_pa (G 0) d b)))
    (h2 : ∀ i, 108 ≤ i → i < 132 → M2.1 i = M1.1 i) (hs : ∀ e, e < n → e ≠ d → z_sa (G 0) P' e) : z_HC n (z_ps P' G) (min 20 (hn + 1)) M2 := by
  obtain ⟨a1, a2, a3, a4, a5, a6, a7, a8⟩ := hM
  obtain ⟨b1, b2⟩ := hH
  refine z_HC.fr (M := M1) ⟨Nat.min_le_left _ _, a3, (nx + 1) % 20, Nat.mod_lt _ (by decide), a2, fun j hj => ?_⟩ h2
  match j with
  | 0 =>
    have e : ((nx + 1) % 20 + 19 - 0) % 20 = nx := by omega
    rw [e]
    exact ⟨d, hd, a4, a6, a8, hs⟩
  | j + 1 =>
    have e : ((nx + 1) % 20 + 19 - (j + 1)) % 20 = (nx + 19 - j) % 20 := by omega
    have e2 : (nx + 19 - j) % 20 ≠ nx := by omega
    rw [e]
    obtain ⟨d', hd', c1, c2, c3, c4⟩ := b2 j (by omega)
    refine ⟨d', hd', by rw [a5 _ e2]; exact c1, by rw [a7 _ e2]; exact c2, fun b x y => ?_, c4⟩
    rw [a1.1 (112 + (nx + 19 - j) % 20) (by omega)]; exact c3 b x y
theorem z_HR.push {n nw : Nat} {N1 N2 : SM} (hn8 : n ≤ 8) (hnw : nw < 20) (hP : ∀ j, j ≤ hn → z_WP n (G j)) (hH : hn ≤ 20 ∧ ∀ j, j < hn → z_KR ((nw + 20 - j) % 20) n (G (j + 1)) N)
    (e1 : N1.1 366 64 = nI ((nw + 1) % 20)) (e2 : N1.1 366 63 = nI (min 20 (hn + 1))) (e3 : z_KR ((nw + 1) % 20) n (G 0) N1) (e4 : ∀ j, j < 488 * ((nw + 1) % 20) ∨ 488 * ((nw + 1) % 20) + 488 ≤ j → N1.1 404 j = N.1 404 j)
    (k1 : N2.1 366 63 = N1.1 366 63) (k2 : N2.1 366 64 = N1.1 366 64) (k : N2.1 404 = N1.1 404) : z_HR n (z_ps P' G) (min 20 (hn + 1)) N2 := by
  refine z_HR.fr (M := N1) ⟨Nat.min_le_left _ _, e2, (nw + 1) % 20, Nat.mod_lt _ (by decide), e1, fun j hj => ?_⟩ k1 k2 k
  match j with
  | 0 =>
    have e : ((nw + 1) % 20 + 20 - 0) % 20 = (nw + 1) % 20 := by omega
    rw [e]; exact e3
  | j + 1 =>
    have e : ((nw + 1) % 20 + 20 - (j + 1)) % 20 = (nw + 20 - j) % 20 := by omega
    rw [e]
    intro c hc
    have h1 := hH.2 j (by omega) c hc
    have h2 := (hP (j + 1) (by omega) c hc).1
    have h3 : (nw + 20 - j) % 20 ≠ (nw + 1) % 20 := by omega
    generalize (nw + 20 - j) % 20 = u at h1 h3
    generalize (nw + 1) % 20 = v at e4 h3
    have h4 : 488 * u + 488 ≤ 488 * v ∨ 488 * v + 488 ≤ 488 * u := by omega
    refine ⟨?_, fun b b1 b2 => ?_⟩
    · rw [e4 _ (by omega)]; exact h1.1
    · have b3 : b ≤ 60 := Nat.le_trans b2 h2
      rw [e4 _ (by omega)]; exact h1.2 b b1 b2
theorem z_ps_W {n : Nat} (hP : ∀ j, j ≤ hn → z_WP n (G j)) (hP' : z_WP n P') : ∀ j, j ≤ min 20 (hn + 1) → z_WP n (z_ps P' G j) := fun j hj => by
  match j with
  | 0 => exact hP'
  | j + 1 => exact hP j (by omega)
theorem g_mark (hK : z_K o A nm P G hn M N) (x y z w : Int32) :
    ∃ v M' N' P' G' hn', f_Sp_mark 0 x y z w M = some (v, M') ∧ f_Mo_mark 366 x y z w N = some (v, N') ∧ z_K o A nm P' G' hn' M' N' ∧ z_AK M M' ∧ z_BK N N' := by
  obtain ⟨hW, h, k, hG0, hGW, hHC, hHR⟩ := hK
  have hK0 : z_K o A nm P G hn M N := ⟨hW, h, k, hG0, hGW, hHC, hHR⟩
  have hd8 := hW.1.2.1
  unfold f_Sp_mark f_Mo_mark
  rw [c_isDesk hW h, m_isDesk hW k, z_isG]
  simp only [Option.bind_some]
  by_cases q : z_q x (A 0 3)
  · rw [z_b1 q, z_b1 q]
    obtain ⟨d, hd, rfl⟩ := z_q_of (by omega) q
    have h00 : 0 < A 0 0 := Nat.pos_of_ne_zero (fun e => by have := (hW.2.2.2.1 e).1; omega)
    have a1 : y < 1 ↔ y.toInt < 1 := Int32.lt_iff_toInt_lt
    have a2 : 60 < z ↔ 60 < z.toInt := Int32.lt_iff_toInt_lt
    have a3 : z < y ↔ z.toInt < y.toInt := Int32.lt_iff_toInt_lt
    by_cases good : 1 ≤ y.toInt ∧ y.toInt ≤ z.toInt ∧ z.toInt ≤ 60
    · obtain ⟨g1, g2, g3⟩ := good
      rw [if_neg (fun t => by have := a1.mp t; omega), if_neg (fun t => by have := a2.mp t; omega), if_neg (fun t => by have := a3.mp t; omega), if_pos (show (1 : Int64).toInt ≤ y.toInt ∧ y.toInt ≤ (60 : Int64).toInt from ⟨g1, by show y.toInt ≤ (60 : Int); omega⟩), if_neg z_10, z_isG]
      simp only [Option.bind_some]
      rw [if_pos (show (y.toInt64).toInt ≤ z.toInt ∧ z.toInt ≤ (60 : Int64).toInt from ⟨by rw [Int32.toInt_toInt64]; exact g2, g3⟩), if_neg z_10]
      obtain ⟨f, hf, rfl, hfy⟩ := z_nIof (x := y) (by omega)
      obtain ⟨t, ht, rfl, htz⟩ := z_nIof (x := z) (by omega)
      -- the class
      obtain ⟨c1, c2, nx, c3, c4, c5⟩ := hHC
      have hV : ∃ v : Nat, v ≤ 3 ∧ ((w = 0 ∧ v = 2) ∨ (w ≠ 0 ∧ v = 0)) := by
        by_cases e : w = 0
        · exact ⟨2, by decide, Or.inl ⟨e, rfl⟩⟩
        · exact ⟨0, by decide, Or.inr ⟨e, rfl⟩⟩
      obtain ⟨v, hv3, hv⟩ := hV
      have hP' : z_WP (A 0 3) (z_mk P d f t v) := z_mk_W hW.2.1 (by omega) hv3 hd
      have hW' : z_WB A nm (z_mk P d f t v) := hW.to hP'
      have sc : z_ok ((f_Ac_keep (jpf 0 5) (jpf (jop (M.1 0 8)) 13) (nI d) M).bind fun q6 => (if w = 0 then some 2 else some 0 : Option Int32).bind fun q7 => (f_Pa_setActs (jpf (jop (q6.1 0 8)) 13) (nI d) (nI f) (nI t) q7 q6).bind fun q9 => (f_Ru_playAll (jpf 0 6) (jop (q9.2.1 0 8)) (jpf 0 7) q9.2).bind fun q10 => some (q9.1, q10)) (fun r => r.1 = nI (z_ow P d v f (t + 1 - f)) ∧ z_CB o A nm (z_mk P d f t v) r.2 ∧ z_AK M r.2 ∧ z_HC (A 0 3) (z_ps (z_mk P d f t v) G) (min 20 (hn + 1)) r.2) := by
        rw [h.2.1, jp_0_5, jo_13 h.1, jp_0_6, jp_0_7]
        refine z_bind (c_actK h.1 hd8 hW.2.1 h.2.2.2.1 hd c3 c1 c4 c2) (fun M1 h1 => ?_)
        have F1 := h1.1
        have hT1 : z_TC o (A 0 3) P M1 := h.2.2.2.1.fr hd8 (fun i a b => F1.1 i (by have := h.1; omega))
        refine z_eq (r := nI v) (by rcases hv with ⟨e1, e2⟩ | ⟨e1, e2⟩; rw [if_pos e1, e2]; rfl; rw [if_neg e1, e2]; rfl) ?_
        rw [F1.1 0 (by omega), h.2.1, jo_13 h.1]
        refine z_bind (c_setActs h.1 hd8 hW.2.1 hT1 hd (by omega) (by omega) (by omega) hv3) (fun r hr => ?_)
        obtain ⟨cnt, M2⟩ := r
        obtain ⟨r1, r2, r3⟩ := hr
        have r3 : z_Fr (fun i => i ≠ o + 41 + d ∧ i ≠ o + 49) M1 M2 := r3
        have ho := h.1
        rw [show (cnt, M2).2 = M2 from rfl, r3.1 0 (by omega), F1.1 0 (by omega), h.2.1]
        have hCH : z_CH o A nm (z_mk P d f t v) M2 := h.ch.to hW (by rw [r3.1 0 (by omega), F1.1 0 (by omega)]) (fun i a b => by rw [r3.1 i (by omega), F1.1 i (by omega)]) r2
        refine z_bind (c_replay hW' h00 hCH) (fun M3 h3 => z_some ⟨r1, h3.1, ?_, ?_⟩)
        · exact ((F1.wk (fun i a => by omega)).tr (r3.wk (fun i a => by omega))).tr (h3.2.wk (fun i a => by omega))
        · refine z_HC.push (P' := z_mk P d f t v) c3 hd ⟨c1, c5⟩ (by rw [hG0]; exact h1) (fun i a b => by rw [h3.2.1 i (by omega), r3.1 i (by omega)]) (fun e _ q => by rw [hG0]; exact z_mk_s q)
      -- the reference
      obtain ⟨m1, m2, nw, m3, m4, m5⟩ := hHR
      have sm : z_ok ((f_Mo_keeps 366 N).bind fun q7 => (f_Mo_barsOf 366 (nI d) q7).bind fun q8 => (lp_Mo_mark_61 366 (nI t) (488 + (61 * nI d)) jfuel (q8 + 1) q7).bind fun q11 => (aI q11 (jpf 366 36) (488 + (61 * nI d))).bind fun v12 => (if v12 < nI t then ((aS q11 (jpf 366 36) (488 + (61 * nI d)) (nI t)).bind fun M15 => some M15) else (some q11) : Option (SM)).bind fun q13 => (lp_Mo_mark_106 366 (nI t) w (488 + (61 * nI d)) jfuel 0 (nI f) q13).bind fun q23 => (f_Mo_plays 366 q23.2).bind fun q24 => some (q23.1, q24)) (fun r => r.1 = nI (z_ow P d v f (t + 1 - f)) ∧ z_MB A nm (z_mk P d f t v) r.2 ∧ z_BK N r.2 ∧ z_HR (A 0 3) (z_ps (z_mk P d f t v) G) (min 20 (hn + 1)) r.2) := by
        refine z_bind (m_keeps hd8 hW.2.1 k.2.1 m3 m1 m4 m2) (fun N1 h1 => ?_)
        obtain ⟨F1, s1, s2, s3, s4, s5⟩ := h1
        have hT1 : z_TR (A 0 3) P N1 := k.2.1.fr (F1.1 391 (by decide))
        have mm := m_marks (fl := w) hd8 hW.2.1 hT1 hd (f := f) (t := t) (v := v) (by omega) (by omega) (by omega) hv
        -- the same with its tail
        have tail : ∀ (r : Int32 × SM), (r.1 = nI (z_ow P d v f (t + 1 - f)) ∧ z_TR (A 0 3) (z_mk P d f t v) r.2 ∧ z_Fr (fun i => i ≠ 391) N1 r.2) → z_ok ((f_Mo_plays 366 r.2).bind fun q24 => some (r.1, q24)) (fun r => r.1 = nI (z_ow P d v f (t + 1 - f)) ∧ z_MB A nm (z_mk P d f t v) r.2 ∧ z_BK N r.2 ∧ z_HR (A 0 3) (z_ps (z_mk P d f t v) G) (min 20 (hn + 1)) r.2) := by
          intro r hr
          obtain ⟨r1, r2, r3⟩ := hr
          have B2 : z_BK N r.2 := ⟨(F1.wk (fun i q => by omega)).tr (r3.wk (fun i q => by omega)), fun j hj => by rw [r3.1 366 (by decide)]; exact s1 j (by omega) (by omega)⟩
          have hMH : z_MH A nm (z_mk P d f t v) r.2 := k.mh.to B2 r2
          refine z_bind (m_replay hW' h00 hMH) (fun N3 h3 => z_some ⟨r1, h3.1, B2.tr h3.2.bk, ?_⟩)
          refine z_HR.push (P' := z_mk P d f t v) (N1 := N1) hd8 m3 hGW ⟨m1, m5⟩ s2 s3 (by rw [hG0]; exact s4) s5 ?_ ?_ ?_
          · rw [h3.2.2 63 (by decide), r3.1 366 (by decide)]
          · rw [h3.2.2 64 (by decide), r3.1 366 (by decide)]
          · rw [h3.2.1.1 404 (by decide), r3.1 404 (by decide)]
        obtain ⟨r, er, pr⟩ := mm
        obtain ⟨u, eu, pu⟩ := tail r pr
        refine ⟨u, ?_, pu⟩
        rw [← eu]
        have er2 := er
        simp only [Option.bind_eq_some_iff] at er2
        obtain ⟨q8, e8, q11, e11, v12, e12, q13, e13, e106⟩ := er2
        simp only [e8, e11, e12, Option.bind_some]
        rw [e13]
        simp only [Option.bind_some]
        rw [e106]
        rfl
      obtain ⟨⟨cv, M'⟩, ec, p1, p2, p3, p4⟩ := sc
      obtain ⟨⟨mv, N'⟩, em, u1, u2, u3, u4⟩ := sm
      have p1 : cv = _ := p1
      have u1 : mv = _ := u1
      refine ⟨cv, M', N', z_mk P d f t v, z_ps (z_mk P d f t v) G, min 20 (hn + 1), ec, ?_, ⟨hW', p2, u2, rfl, z_ps_W hGW hP', p4, u4⟩, p3, u3⟩
      rw [p1, ← u1]
      exact em
    · refine ⟨-1, M, N, P, G, hn, ?_, ?_, hK0, z_Fr.rf, z_BK.rf⟩
      · by_cases b1 : y < 1
        · rw [if_pos b1]
        rw [if_neg b1]
        by_cases b2 : 60 < z
        · rw [if_pos b2]
        rw [if_neg b2]
        by_cases b3 : z < y
        · rw [if_pos b3]
        · exact absurd ⟨Int.not_lt.mp (fun t => b1 (a1.mpr t)), Int.not_lt.mp (fun t => b3 (a3.mpr t)), Int.not_lt.mp (fun t => b2 (a2.mpr t))⟩ good
      · by_cases b1 : (1 : Int64).toInt ≤ y.toInt ∧ y.toInt ≤ (60 : Int64).toInt
        · rw [if_pos b1, if_neg z_10, z_isG]
          simp only [Option.bind_some]
          by_cases b2 : (y.toInt64).toInt ≤ z.toInt ∧ z.toInt ≤ (60 : Int64).toInt
          · exact absurd ⟨b1.1, by have := b2.1; rw [Int32.toInt_toInt64] at this; exact this, b2.2⟩ good
          · rw [if_neg b2]; rfl
        · rw [if_neg b1]; rfl
  · rw [z_b0 q, z_b0 q]
    exact ⟨-1, M, N, P, G, hn, rfl, rfl, hK0, z_Fr.rf, z_BK.rf⟩
theorem g_undo (hK : z_K o A nm P G hn M N) :
    ∃ v M' N' P' G' hn', f_Sp_undo 0 M = some (v, M') ∧ f_Mo_undo 366 N = some (v, N') ∧ z_K o A nm P' G' hn' M' N' ∧ z_AK M M' ∧ z_BK N N' := by
  obtain ⟨hW, h, k, hG0, hGW, hHC, hHR⟩ := hK
  have hK0 : z_K o A nm P G hn M N := ⟨hW, h, k, hG0, hGW, hHC, hHR⟩
  have hd8 := hW.1.2.1
  have ho := h.1
  obtain ⟨c1, c2, nx, c3, c4, c5⟩ := hHC
  obtain ⟨m1, m2, nw, m3, m4, m5⟩ := hHR
  by_cases e0 : hn = 0
  · refine ⟨0, M, N, P, G, hn, ?_, ?_, hK0, z_Fr.rf, z_BK.rf⟩
    · unfold f_Sp_undo f_Ac_takeBack
      rw [jp_0_5, c2, e0]; rfl
    · unfold f_Mo_undo
      rw [m2, e0]; rfl
  · have hj := c5 0 (by omega)
    rw [show nx + 19 - 0 = nx + 19 by omega] at hj
    obtain ⟨d, hd, t1, t2, t3, t4⟩ := hj
    have hP' : z_WP (A 0 3) (G 1) := hGW 1 (by omega)
    have hW' : z_WB A nm (G 1) := hW.to hP'
    have h00 : 0 < A 0 0 := Nat.pos_of_ne_zero (fun e => by have := (hW.2.2.2.1 e).1; omega)
    have hq : (nx + 19) % 20 < 20 := Nat.mod_lt _ (by decide)
    have hp1 := (hP' d hd).1
    have sc : z_ok (f_Sp_undo 0 M) (fun r => r.1 = 1 ∧ z_CB o A nm (G 1) r.2 ∧ z_AK M r.2 ∧ z_HC (A 0 3) (fun j => G (j + 1)) (hn - 1) r.2) := by
      unfold f_Sp_undo
      rw [jp_0_5, h.2.1, jo_13 ho]
      refine z_bind (P := fun r => r.1 = 1 ∧ z_TC o (A 0 3) (G 1) r.2 ∧ z_Fr (fun i => i ≠ 108 ∧ i ≠ o + 41 + d ∧ i ≠ o + 49) M r.2 ∧ r.2.1 108 3 = nI ((nx + 19) % 20) ∧ r.2.1 108 4 = nI (hn - 1)) ?_ (fun r hr => ?_)
      · unfold f_Ac_takeBack
        rw [c2, c4]
        refine z_neg (nI_ne0 (by omega) (by omega)) ?_
        refine z_eq (r := nI ((nx + 19) % 20)) (by
          by_cases q : nx = 0
          · rw [q]; rfl
          · rw [if_pos (show (0 : Int32) < nI nx from nI_lt (a := 0) (by omega) (by omega)), z_ls (by omega), show (nx + 19) % 20 = nx - 1 by omega]) ?_
        generalize (nx + 19) % 20 = s at t1 t2 t3 hq
        rw [show (sI M 108 3 (nI s)).1 108 4 = nI hn from (z_sIk _ _ _ _ (by decide)).trans c2, z_ls (by omega)]
        generalize hM1 : sI (sI M 108 3 (nI s)) 108 4 (nI (hn - 1)) = M1
        have g1 : ∀ i, i ≠ 108 → M1.1 i = M.1 i := fun i q => by rw [← hM1, z_sIa _ _ _ _ q, z_sIa _ _ _ _ q]
        have g2 : M1.1 108 3 = nI s := by rw [← hM1, z_sIk _ _ _ _ (by decide), z_sIs]
        have g3 : M1.1 108 4 = nI (hn - 1) := by rw [← hM1, z_sIs]
        have g4 : M1.2 = M.2 := by rw [← hM1]; rfl
        rw [jp_108_0, jp_108_1, g2]
        refine z_eq (za_109 _ (by omega)) ?_
        rw [g1 109 (by decide), t1]
        refine z_bind (P := fun M2 => z_Fr (fun i => i ≠ o + 41 + d) M1 M2 ∧ ∀ b, 1 ≤ b → b ≤ 60 → M2.1 (o + 41 + d) (b - 1) = nI (z_pa (G 1) d b)) ?_ (fun M2 h2 => ?_)
        · refine z_loop (fun m c s => lp_Ac_takeBack_55 108 (o + 39) (nI d) m c s) (fun c M2 => 1 ≤ c ∧ z_Fr (fun i => i ≠ o + 41 + d) M1 M2 ∧ ∀ b, 1 ≤ b → b < c → M2.1 (o + 41 + d) (b - 1) = nI (z_pa (G 1) d b)) _ 61 ?_ ?_ jfuel 1 M1 (by decide) (by decide) ⟨by decide, z_Fr.rf, fun b b1 b2 => by omega⟩
          · intro m c M' hc hI kk
            obtain ⟨i1, i2, i3⟩ := hI
            show z_ok (lp_Ac_takeBack_55 108 (o + 39) (nI d) (m + 1) (nI c) M') _
            rw [lp_Ac_takeBack_55, zl_60, jp_108_2, i2.1 108 (by omega), g2, z_ls i1]
            refine z_neg (nI_nlt (by omega) (by omega)) ?_
            refine z_eq (zc_111 _ (by omega) (by omega)) ?_
            rw [i2.1 (112 + s) (by omega), g1 (112 + s) (by omega), t3 c i1 (by omega)]
            refine z_eq (c_setAct ho (by omega) i1 (by omega)) ?_
            rw [nI_1]
            refine kk _ ⟨by omega, i2.sI (by omega), fun b b1 b2 => ?_⟩
            by_cases e : b = c
            · subst e; rw [z_sIs]
            · rw [z_sIk _ _ _ _ (by omega)]; exact i3 b b1 (by omega)
          · intro m M' hI
            show z_ok (lp_Ac_takeBack_55 108 (o + 39) (nI d) (m + 1) (nI 61) M') _
            rw [lp_Ac_takeBack_55]
            exact z_pos (by decide) (z_some ⟨hI.2.1, fun b b1 b2 => hI.2.2 b b1 (by omega)⟩)
        · obtain ⟨F2, R2⟩ := h2
          rw [F2.1 108 (by omega), g2]
          refine z_eq (za_110 _ (by omega)) ?_
          rw [F2.1 110 (by omega), g1 110 (by decide), t2]
          refine z_eq (c_setSize ho (by omega)) (z_some ⟨rfl, fun e he => ?_, ⟨fun i hi => ?_, ?_⟩, ?_, ?_⟩)
          · have hTe := h.2.2.2.1 e he
            by_cases q : e = d
            · subst q
              refine ⟨z_sIs _ _ _ _, fun b hb => ?_⟩
              rw [z_sIa _ _ _ _ (by omega)]
              have := R2 (b + 1) (by omega) (by have hb : b < (G 1).1 e := hb; omega)
              rw [show b + 1 - 1 = b from rfl] at this
              rw [this]
              unfold z_pa
              rw [if_pos ⟨by omega, by have hb : b < (G 1).1 e := hb; omega⟩]
            · have hs : z_sa (G 1) (G 0) e := t4 e he q
              rw [hG0] at hs
              refine ⟨?_, fun b hb => ?_⟩
              · rw [z_sIk _ _ _ _ q, F2.1 _ (by omega), g1 _ (by omega), hTe.1]
                exact congrArg nI hs.1.symm
              · have hb' : b < P.1 e := by rw [← hs.1]; exact hb
                rw [z_sIa _ _ _ _ (by omega), F2.1 _ (by omega), g1 _ (by omega), hTe.2 b hb']
                have h5 := hs.2 (b + 1)
                unfold z_pa at h5
                have hb2 : b < (G 1).1 e := hb
                rw [if_pos ⟨by omega, by omega⟩, if_pos ⟨by omega, by omega⟩] at h5
                exact congrArg nI h5.symm
          · rw [z_sIa _ _ _ _ hi.2.2, F2.1 i hi.2.1]; exact g1 i hi.1
          · show M2.2 = M.2
            rw [F2.2]; exact g4
          · rw [z_sIa _ _ _ _ (by omega), F2.1 108 (by omega)]; exact g2
          · rw [z_sIa _ _ _ _ (by omega), F2.1 108 (by omega)]; exact g3
      · obtain ⟨r1, r2, r3, r4, r5⟩ := hr
        rw [r1]
        refine z_neg z_10 ?_
        rw [r3.1 0 (by omega), h.2.1, jp_0_6, jp_0_7]
        have hCH : z_CH o A nm (G 1) r.2 := h.ch.to hW (by rw [r3.1 0 (by omega)]) (fun i a b => r3.1 i (by omega)) r2
        refine z_bind (c_replay hW' h00 hCH) (fun M3 h3 => z_some ⟨rfl, h3.1, (r3.wk (fun i a => by omega)).tr (h3.2.wk (fun i a => by omega)), by omega, ?_, (nx + 19) % 20, hq, ?_, fun j hj => ?_⟩)
        · rw [h3.2.1 108 (by omega)]; exact r5
        · rw [h3.2.1 108 (by omega)]; exact r4
        · have e : ((nx + 19) % 20 + 19 - j) % 20 = (nx + 19 - (j + 1)) % 20 := by omega
          rw [e]
          obtain ⟨d', hd', x1, x2, x3, x4⟩ := c5 (j + 1) (by omega)
          have hs : (nx + 19 - (j + 1)) % 20 < 20 := Nat.mod_lt _ (by decide)
          generalize (nx + 19 - (j + 1)) % 20 = s' at x1 x2 x3 hs
          refine ⟨d', hd', ?_, ?_, fun b b1 b2 => ?_, x4⟩
          · rw [h3.2.1 109 (by omega), r3.1 109 (by omega)]; exact x1
          · rw [h3.2.1 110 (by omega), r3.1 110 (by omega)]; exact x2
          · rw [h3.2.1 (112 + s') (by omega), r3.1 (112 + s') (by omega)]; exact x3 b b1 b2
    have sm : z_ok (f_Mo_undo 366 N) (fun r => r.1 = 1 ∧ z_MB A nm (G 1) r.2 ∧ z_BK N r.2 ∧ z_HR (A 0 3) (fun j => G (j + 1)) (hn - 1) r.2) := by
      unfold f_Mo_undo
      rw [m2]
      refine z_neg (nI_ne0 (by omega) (by omega)) ?_
      refine z_bind (P := fun N1 => z_Fr (fun i => i ≠ 391) N N1 ∧ ∀ j, j < 488 → N1.1 391 (488 + j) = N.1 404 (488 * nw + j)) ?_ (fun N1 h1 => ?_)
      · refine z_loop (fun m c s => lp_Mo_undo_11 366 m c s) (fun c N1 => z_Fr (fun i => i ≠ 391) N N1 ∧ ∀ j, j < c → N1.1 391 (488 + j) = N.1 404 (488 * nw + j)) _ 488 ?_ ?_ jfuel 0 N (by decide) (by decide) ⟨z_Fr.rf, fun j hj => by omega⟩
        · intro m c N' hc hI kk
          obtain ⟨i1, i2⟩ := hI
          show z_ok (lp_Mo_undo_11 366 (m + 1) (nI c) N') _
          rw [lp_Mo_undo_11, zl_488, jm_36, jm_62, i1.1 366 (by decide), m4, pk_mul, nI_add, nI_add, nI_1]
          refine z_pos (nI_lt hc (by decide)) ?_
          refine z_eq (zi_404 _ (by omega)) ?_
          refine z_eq (zs_391 _ (by omega)) ?_
          refine kk _ ⟨i1.sI (by omega), fun j hj => ?_⟩
          by_cases e : j = c
          · subst e; rw [z_sIs, i1.1 404 (by decide)]
          · rw [z_sIk _ _ _ _ (by omega)]; exact i2 j (by omega)
        · intro m N' hI
          show z_ok (lp_Mo_undo_11 366 (m + 1) (nI 488) N') _
          rw [lp_Mo_undo_11]
          exact z_neg (by decide) (z_some hI)
      · obtain ⟨F1, R1⟩ := h1
        have hT1 : z_TR (A 0 3) (G 1) N1 := fun e he => by
          have h5 := m5 0 (by omega)
          rw [show (nw + 20 - 0) % 20 = nw by omega] at h5
          have h5 := h5 e he
          have hpe := (hP' e he).1
          refine ⟨?_, fun b b1 b2 => ?_⟩
          · rw [R1 _ (by omega)]; exact h5.1
          · rw [show 488 + 61 * e + b = 488 + (61 * e + b) by omega, R1 _ (by omega), show 488 * nw + (61 * e + b) = 488 * nw + 61 * e + b by omega]; exact h5.2 b b1 b2
        have e64 : N1.1 366 64 = nI nw := by rw [F1.1 366 (by decide)]; exact m4
        have e63 : N1.1 366 63 = nI hn := by rw [F1.1 366 (by decide)]; exact m2
        rw [e64, zl_20, nI_add, z_ls (by omega), pk_rem (by omega) (by decide) (by decide), z_sIk _ _ _ _ (by decide), e63, z_ls (by omega)]
        generalize hN2 : sI (sI N1 366 64 (nI ((nw + 20 - 1) % 20))) 366 63 (nI (hn - 1)) = N2
        have g1 : ∀ i, i ≠ 366 → N2.1 i = N1.1 i := fun i q => by rw [← hN2, z_sIa _ _ _ _ q, z_sIa _ _ _ _ q]
        have g2 : N2.1 366 64 = nI ((nw + 20 - 1) % 20) := by rw [← hN2, z_sIk _ _ _ _ (by decide), z_sIs]
        have g3 : N2.1 366 63 = nI (hn - 1) := by rw [← hN2, z_sIs]
        have g4 : N2.2 = N1.2 := by rw [← hN2]; rfl
        have g5 : ∀ j, j ≠ 63 → j ≠ 64 → N2.1 366 j = N1.1 366 j := fun j a b => by rw [← hN2, z_sIk _ _ _ _ a, z_sIk _ _ _ _ b]
        have B2 : z_BK N N2 := ⟨⟨fun i hi => by rw [g1 i hi.1]; exact F1.1 i hi.2.1, by rw [g4]; exact F1.2⟩, fun j hj => by rw [g5 j (by omega) (by omega), F1.1 366 (by decide)]⟩
        have hT2 : z_TR (A 0 3) (G 1) N2 := hT1.fr (g1 391 (by decide))
        refine z_bind (m_replay hW' h00 (k.mh.to B2 hT2)) (fun N3 h3 => z_some ⟨rfl, h3.1, B2.tr h3.2.bk, by omega, ?_, (nw + 20 - 1) % 20, Nat.mod_lt _ (by decide), ?_, fun j hj => ?_⟩)
        · rw [h3.2.2 63 (by decide)]; exact g3
        · rw [h3.2.2 64 (by decide)]; exact g2
        · have e : ((nw + 20 - 1) % 20 + 20 - j) % 20 = (nw + 20 - (j + 1)) % 20 := by omega
          rw [e]
          intro e' he'
          rw [h3.2.1.1 404 (by decide), g1 404 (by decide), F1.1 404 (by decide)]
          exact m5 (j + 1) (by omega) e' he'
    obtain ⟨⟨cv, M'⟩, ec, p1, p2, p3, p4⟩ := sc
    obtain ⟨⟨mv, N'⟩, em, u1, u2, u3, u4⟩ := sm
    have p1 : cv = 1 := p1
    have u1 : mv = 1 := u1
    subst p1; subst u1
    exact ⟨1, M', N', G 1, fun j => G (j + 1), hn - 1, ec, em, ⟨hW', p2, u2, rfl, fun j hj => hGW (j + 1) (by omega), p4, u4⟩, p3, u3⟩
end
