/-! ===== pure: TESTs, both ===== -/
def t_ok (qp : Nat → Prop) (T : Nat → Nat) (n b : Nat) (A : ZA) (F : Nat → ZS) (o u : Nat) (W L K : List Nat) (M N : SM) (b' : Nat) (M' : SM) : Prop :=
  ∃ a' Q D v K' N', b < b' ∧ z_mb T n b' ∧ z_RD T n b' M' ∧ z_SF M M' ∧ M'.1 322 3 = nI (u + 1) ∧ y_R u v M' ∧ (∀ i, i < 61 → y_01 (v i)) ∧ y_P A F D v ∧
    (∀ x, x ∈ Q → qp x) ∧ z_RF T n b' a' N' ∧ y_M 0 o (Q ++ W) K' N' ∧ Q.reverse ++ K' = L ++ (D ++ K) ∧ Q.length + K'.length + b ≤ L.length + K.length + b' ∧ y_X N N' ∧
    ∀ f, n + 5 ≤ f + b → ∃ g' f', y_fu n b' g' f' ∧ t_A f N = t_B g' f' N'
def t_bad (n b : Nat) (N M' : SM) : Prop := ∃ N', z_FF M' N' ∧ y_X N N' ∧ ∀ f, n + 5 ≤ f + b → t_A f N = some N'
def t_res (qp sp : Nat → Prop) (T : Nat → Nat) (n b : Nat) (A : ZA) (F : Nat → ZS) (o u : Nat) (W L K : List Nat) (M N : SM) (r : Int32 × SM) : Prop :=
  y_F u M r.2 ∧ ((r.1 = 1 ∧ ∃ b', sp b' ∧ t_ok qp T n b A F o u W L K M N b' r.2) ∨ (r.1 = 0 ∧ t_bad n b N r.2))
def y_10 (x : Nat) : Prop := x = 10
def y_11 (x : Nat) : Prop := x = 10 ∨ x = 11
def y_12 (x : Nat) : Prop := x = 12
def t_CF (T : Nat → Nat) (n oo : Nat) (A : ZA) (nm : Nat → Nat → Nat) (P : ZP) (k o : Nat) : Prop := ∀ b u Nk W0 K M N, y_I T n b oo A nm P u 0 o (Nk ++ W0) K M N → (∀ x, x ∈ Nk → x = 12) → y_nh y_12 W0 → (∀ x, x ∈ W0 → 10 ≤ x) → Nk.length ≤ o → u ≤ 3 * o + 2 →
  ∃ r, (fg_Qu_test k).2.2.1 322 (nI o) M = some r ∧ t_res (fun _ => False) (fun _ => True) T n b A (r_v A (z_pa P)) (o - Nk.length) u W0 Nk.reverse K M N r
def t_CB (T : Nat → Nat) (n oo : Nat) (A : ZA) (nm : Nat → Nat → Nat) (P : ZP) (k o : Nat) : Prop := ∀ b u W K M N, y_I T n b oo A nm P u 0 o W K M N → y_nh y_10 W → y_nh y_12 W → (∀ x, x ∈ W → 10 ≤ x) → u ≤ 3 * o + 1 →
  ∃ r, (fg_Qu_test k).2.1 322 (nI o) M = some r ∧ t_res y_10 (fun b' => ¬ z_is T n b' tw_and) T n b A (r_v A (z_pa P)) o u W [] K M N r
def t_CT (T : Nat → Nat) (n oo : Nat) (A : ZA) (nm : Nat → Nat → Nat) (P : ZP) (k o : Nat) : Prop := ∀ b u W K M N, y_I T n b oo A nm P u 0 o W K M N → y_nh y_11 W → y_nh y_12 W → (∀ x, x ∈ W → 10 ≤ x) → u ≤ 3 * o →
  ∃ r, (fg_Qu_test k).1 322 (nI o) M = some r ∧ t_res y_11 (fun b' => ¬ z_is T n b' tw_and ∧ ¬ z_is T n b' tw_or) T n b A (r_v A (z_pa P)) o u W [] K M N r
section
variable {T : Nat → Nat} {n b a b' oo u o k : Nat} {A : ZA} {nm : Nat → Nat → Nat} {P : ZP} {W K Nk W0 : List Nat} {M N M' N' : SM}
theorem y_nois {w : List Nat} (hw : z_wt n T) (hb : b ≤ n) (h : 1600 ≤ b) : ¬ z_is T n b w := fun s => by
  have := hw.1
  have := (z_so_1 s.1).1
  have := z_sk_s (T := T) hb
  omega
theorem t_isAnd (hw : z_wt n T) (hb : b ≤ n) (hD : z_RD T n b M) : f_Re_isWord 3 1018 M = some (if z_is T n b tw_and then 1 else 0) := c_isWord hw hb hD (by decide +kernel) (by decide) (by decide +kernel) (by decide)
theorem t_isOr (hw : z_wt n T) (hb : b ≤ n) (hD : z_RD T n b M) : f_Re_isWord 3 1019 M = some (if z_is T n b tw_or then 1 else 0) := c_isWord hw hb hD (by decide +kernel) (by decide) (by decide +kernel) (by decide)
theorem t_isNot (hw : z_wt n T) (hb : b ≤ n) (hD : z_RD T n b M) : f_Re_isWord 3 1012 M = some (if z_is T n b tw_not then 1 else 0) := c_isWord hw hb hD (by decide +kernel) (by decide) (by decide +kernel) (by decide)
theorem t_bothL (hw : z_wt n T) (hW : z_WB A nm P) (ho : o ≤ 6) (hP : t_CF T n oo A nm P k o) {M N : SM} (hI : y_I T n b oo A nm P u 0 o W K M N) (hN : y_nh y_10 W) (hV : ∀ x, x ∈ W → 10 ≤ x) (hu : u ≤ 3 * o + 1) : ∀ j b1 M1 m t, n - b1 ≤ j → t_ok y_10 T n b A (r_v A (z_pa P)) o u W [] K M N b1 M1 → y_F u M M1 → t ≤ b1 → j < m →
    ∃ w, lp_Qu_both_12 (fg_Qu_test k) 322 (nI o) m (nI t) M1 = some w ∧ ((∃ M', w = .inl M' ∧ y_F u M M' ∧ ∃ b', ¬ z_is T n b' tw_and ∧ t_ok y_10 T n b A (r_v A (z_pa P)) o u W [] K M N b' M') ∨ (∃ M', w = .inr (0, M') ∧ y_F u M M' ∧ t_bad n b N M')) := by
  have hn := hw.1
  intro j
  induction j using Nat.strongRecOn with
  | _ j ih =>
    intro b1 M1 m t hj hok hF ht hjm
    obtain ⟨m, rfl⟩ : ∃ m', m = m' + 1 := ⟨m - 1, by omega⟩
    obtain ⟨a1, Q, D, v, K1, N1, lt, m1, d1, sf, hU, hR, hb, hY, hQ, r1, y1, eK, len, x1, fu⟩ := hok
    have hok' : t_ok y_10 T n b A (r_v A (z_pa P)) o u W [] K M N b1 M1 := ⟨a1, Q, D, v, K1, N1, lt, m1, d1, sf, hU, hR, hb, hY, hQ, r1, y1, eK, len, x1, fu⟩
    have tc1 := hI.2.2.1.yf hF
    by_cases h16 : t < 1600
    · by_cases hs : z_is T n b1 tw_and
      · have hen := z_en_s (T := T) m1.1
        have hlt := hen.2.2.1 (z_so_1 hs.1).1
        have hsk := z_sk_s (T := T) m1.1
        obtain ⟨M2, e2, d2, re2, sf2⟩ := c_next hw tc1 m1.1 d1
        obtain ⟨N2, eB, r2, y2, x2⟩ := t_B_and hw m1 r1 (hI.2.2.2.2.2.2.1.yx x1) hs y1 hQ hN (by have := hI.2.2.2.2.2.2.2.2; have := m1.1; simp only [List.length_nil] at len; omega)
        rw [eK] at y2
        have eL : (Q.reverse ++ K1).length = (D ++ K).length := by rw [eK]; rfl
        simp only [List.length_append, List.length_reverse] at eL
        simp only [List.length_nil] at len
        have hl := hI.2.2.2.2.2.2.2.2
        have hI2 : y_I T n (z_en T n b1) oo A nm P (u + 1) 0 o (10 :: W) (D ++ K) M2 N2 := hI.to hW (hF.tr re2.yf) hen.2.2.2 d2 (by rw [re2.1 322 (by omega)]; exact hU) (x1.tr x2) r2 y2 (by rw [List.length_cons, List.length_append]; omega)
        obtain ⟨⟨w3, M3⟩, e3, F3, h3⟩ := hP (z_en T n b1) (u + 1) [] (10 :: W) (D ++ K) M2 N2 hI2 (fun _ h => nomatch h) (y_nh.cons (by unfold y_12; decide)) (fun x hx => (List.mem_cons.mp hx).elim (fun e => by omega) (hV x)) (Nat.zero_le _) (by omega)
        have F3 : y_F (u + 1) M2 M3 := F3
        have FF : y_F u M M3 := (hF.tr re2.yf).tr (F3.dn (by omega))
        have st : lp_Qu_both_12 (fg_Qu_test k) 322 (nI o) (m + 1) (nI t) M1 = if w3 = 0 then some (.inr (0, M3)) else ((f_Qu_join 322 (y_sg 10) M3).bind fun q10 => lp_Qu_both_12 (fg_Qu_test k) 322 (nI o) m (nI (t + 1)) q10) := by
          rw [lp_Qu_both_12, show (1600 : Int32) = nI 1600 from rfl, if_pos (nI_lt h16 (by decide)), jp_322_0, t_isAnd hw m1.1 d1]
          simp only [Option.bind_some]
          rw [z_b1 hs, e2]
          simp only [Option.bind_some]
          rw [e3, nI_1]; rfl
        have go : ∀ f, n + 5 ≤ f + b → ∃ f', n + 5 ≤ f' + z_en T n b1 ∧ t_A f N = t_A f' N2 := fun f h => by
          obtain ⟨g', f', h', e'⟩ := fu f h
          have bn := m1.1
          obtain ⟨g'', rfl⟩ : ∃ g'', g' = g'' + 1 := ⟨g' - 1, by unfold y_fu at h'; omega⟩
          exact ⟨f', by unfold y_fu at h'; omega, by rw [e', eB]⟩
        rw [st]
        rcases h3 with ⟨w1, b3, _, a3, Q3, D3, v3, K3, N3, lt3, m3, d3, sf3, hU3, hR3, hb3, hY3, hQ3, r3, y3, eK3, len3, x3, fu3⟩ | ⟨w0, N3, ff, x3, fu3⟩
        · have w1 : w3 = 1 := w1
          obtain rfl := y_nil hQ3
          simp only [List.reverse_nil, List.nil_append, List.length_nil, Nat.zero_add, Nat.sub_zero] at y3 eK3 len3
          have hc : ∀ i, i < 61 → (10 = 10 ∨ 10 = 11) ∧ y_01 (v i) ∧ y_01 (v3 i) ∨ (1 ≤ 10 ∧ 10 ≤ 9) ∧ y_bn (v i) ∧ y_bn (v3 i) := fun i hi => Or.inl ⟨Or.inl rfl, hb i hi, hb3 i hi⟩
          obtain ⟨M4, e4, U4, R4, G4⟩ := c_join (c := 10) (u := u) hU3 (by omega) (hR.f (re2.yf.tr F3) (Nat.lt_succ_self u)) hR3 hc
          rw [w1, if_neg z_10, e4]
          simp only [Option.bind_some]
          have F4 : y_F u M M4 := FF.tr G4.f
          have hle : n - b3 < j := by have := m3.1; omega
          refine ih (n - b3) hle b3 M4 m (t + 1) (Nat.le_refl _) ⟨a3, [10], 10 :: (D3 ++ D), _, K3, N3, by omega, m3, d3.yg G4, ((sf.tr sf2).tr sf3).tr G4.sf, U4, R4, fun i hi => (y_j_s (hc i hi)).2.2.2 (by decide), y_P.join hY hY3 (Or.inl ⟨Or.inl rfl, fun i hi => ⟨hb i hi, hb3 i hi⟩⟩), fun y hy => List.mem_singleton.mp hy, r3, y3, ?_, ?_, (x1.tr x2).tr x3, fun f h => ?_⟩ F4 (by omega) (by omega)
          · rw [eK3]
            show 10 :: (D3 ++ (D ++ K)) = 10 :: (D3 ++ D ++ K)
            rw [List.append_assoc]
          · simp only [List.length_cons, List.length_nil, List.length_append] at *
            omega
          · obtain ⟨f', h', e'⟩ := go f h
            obtain ⟨g3, f3, h3', e3'⟩ := fu3 f' h'
            exact ⟨g3, f3, h3', e'.trans e3'⟩
        · have w0 : w3 = 0 := w0
          rw [w0, if_pos rfl]
          refine ⟨_, rfl, Or.inr ⟨M3, rfl, FF, N3, ff, (x1.tr x2).tr x3, fun f h => ?_⟩⟩
          obtain ⟨f', h', e'⟩ := go f h
          exact e'.trans (fu3 f' h')
      · refine ⟨.inl M1, ?_, Or.inl ⟨M1, rfl, hF, b1, hs, hok'⟩⟩
        rw [lp_Qu_both_12, show (1600 : Int32) = nI 1600 from rfl, if_pos (nI_lt h16 (by decide)), jp_322_0, t_isAnd hw m1.1 d1]
        simp only [Option.bind_some]
        rw [z_b0 hs]
    · refine ⟨.inl M1, ?_, Or.inl ⟨M1, rfl, hF, b1, y_nois hw m1.1 (by omega), hok'⟩⟩
      rw [lp_Qu_both_12, show (1600 : Int32) = nI 1600 from rfl, if_neg (nI_nlt (by omega) (by have := m1.1; omega))]
theorem t_both (hw : z_wt n T) (hW : z_WB A nm P) (ho : o ≤ 6) (hP : t_CF T n oo A nm P k o) : t_CB T n oo A nm P (k + 1) o := by
  have hn := hw.1
  intro b u W K M N hI hN hN2 hV hu
  show ∃ r, fb_Qu_both (fg_Qu_test k) 322 (nI o) M = some r ∧ _
  unfold fb_Qu_both
  obtain ⟨⟨w1, M1⟩, e1, F1, h1⟩ := hP b u [] W K M N hI (fun _ h => nomatch h) hN2 hV (Nat.zero_le _) (by omega)
  have F1 : y_F u M M1 := F1
  rw [e1]
  simp only [Option.bind_some]
  rcases h1 with ⟨v1, b1, _, h1⟩ | ⟨v0, h1⟩
  · have v1 : w1 = 1 := v1
    rw [v1, if_neg z_10]
    have h1' : t_ok y_10 T n b A (r_v A (z_pa P)) o u W [] K M N b1 M1 := by
      obtain ⟨a1, Q, D, v, K1, N1, lt, m1, d1, sf, hU, hR, hb, hY, hQ, r1, y1, eK, len, x1, fu⟩ := h1
      exact ⟨a1, Q, D, v, K1, N1, lt, m1, d1, sf, hU, hR, hb, hY, fun x hx => (hQ x hx).elim, r1, y1, eK, len, x1, fu⟩
    obtain ⟨w, ew, hw'⟩ := t_bothL hw hW ho hP hI hN hV hu (n - b1) b1 M1 jfuel 0 (Nat.le_refl _) h1' F1 (Nat.zero_le _) (by rw [z_jf]; omega)
    rw [zl_0, ew]
    rcases hw' with ⟨M', rfl, F', b', s', h'⟩ | ⟨M', rfl, F', h'⟩
    · exact ⟨(1, M'), rfl, F', Or.inl ⟨rfl, b', s', h'⟩⟩
    · exact ⟨(0, M'), rfl, F', Or.inr ⟨rfl, h'⟩⟩
  · have v0 : w1 = 0 := v0
    rw [v0, if_pos rfl]
    exact ⟨(0, M1), rfl, F1, Or.inr ⟨rfl, h1⟩⟩
theorem t_testL (hw : z_wt n T) (hW : z_WB A nm P) (ho : o ≤ 6) (hP : t_CB T n oo A nm P k o) {M N : SM} (hI : y_I T n b oo A nm P u 0 o W K M N) (hN : y_nh y_11 W) (hV : ∀ x, x ∈ W → 10 ≤ x) (hu : u ≤ 3 * o) : ∀ j b1 M1 m t, n - b1 ≤ j → ¬ z_is T n b1 tw_and → t_ok y_11 T n b A (r_v A (z_pa P)) o u W [] K M N b1 M1 → y_F u M M1 → t ≤ b1 → j < m →
    ∃ w, lp_Qu_test_12 (fg_Qu_test k) 322 (nI o) m (nI t) M1 = some w ∧ ((∃ M', w = .inl M' ∧ y_F u M M' ∧ ∃ b', (¬ z_is T n b' tw_and ∧ ¬ z_is T n b' tw_or) ∧ t_ok y_11 T n b A (r_v A (z_pa P)) o u W [] K M N b' M') ∨ (∃ M', w = .inr (0, M') ∧ y_F u M M' ∧ t_bad n b N M')) := by
  have hn := hw.1
  intro j
  induction j using Nat.strongRecOn with
  | _ j ih =>
    intro b1 M1 m t hj hna hok hF ht hjm
    obtain ⟨m, rfl⟩ : ∃ m', m = m' + 1 := ⟨m - 1, by omega⟩
    obtain ⟨a1, Q, D, v, K1, N1, lt, m1, d1, sf, hU, hR, hb, hY, hQ, r1, y1, eK, len, x1, fu⟩ := hok
    have hok' : t_ok y_11 T n b A (r_v A (z_pa P)) o u W [] K M N b1 M1 := ⟨a1, Q, D, v, K1, N1, lt, m1, d1, sf, hU, hR, hb, hY, hQ, r1, y1, eK, len, x1, fu⟩
    have tc1 := hI.2.2.1.yf hF
    by_cases h16 : t < 1600
    · by_cases hs : z_is T n b1 tw_or
      · have hen := z_en_s (T := T) m1.1
        have hlt := hen.2.2.1 (z_so_1 hs.1).1
        have hsk := z_sk_s (T := T) m1.1
        obtain ⟨M2, e2, d2, re2, sf2⟩ := c_next hw tc1 m1.1 d1
        obtain ⟨N2, eB, r2, y2, x2⟩ := t_B_or hw m1 r1 (hI.2.2.2.2.2.2.1.yx x1) hs y1 hQ hN (by have := hI.2.2.2.2.2.2.2.2; have := m1.1; simp only [List.length_nil] at len; omega)
        rw [eK] at y2
        have eL : (Q.reverse ++ K1).length = (D ++ K).length := by rw [eK]; rfl
        simp only [List.length_append, List.length_reverse] at eL
        simp only [List.length_nil] at len
        have hl := hI.2.2.2.2.2.2.2.2
        have hI2 : y_I T n (z_en T n b1) oo A nm P (u + 1) 0 o (11 :: W) (D ++ K) M2 N2 := hI.to hW (hF.tr re2.yf) hen.2.2.2 d2 (by rw [re2.1 322 (by omega)]; exact hU) (x1.tr x2) r2 y2 (by rw [List.length_cons, List.length_append]; omega)
        obtain ⟨⟨w3, M3⟩, e3, F3, h3⟩ := hP (z_en T n b1) (u + 1) (11 :: W) (D ++ K) M2 N2 hI2 (y_nh.cons (by unfold y_10; decide)) (y_nh.cons (by unfold y_12; decide)) (fun x hx => (List.mem_cons.mp hx).elim (fun e => by omega) (hV x)) (by omega)
        have F3 : y_F (u + 1) M2 M3 := F3
        have FF : y_F u M M3 := (hF.tr re2.yf).tr (F3.dn (by omega))
        have st : lp_Qu_test_12 (fg_Qu_test k) 322 (nI o) (m + 1) (nI t) M1 = if w3 = 0 then some (.inr (0, M3)) else ((f_Qu_join 322 (y_sg 11) M3).bind fun q10 => lp_Qu_test_12 (fg_Qu_test k) 322 (nI o) m (nI (t + 1)) q10) := by
          rw [lp_Qu_test_12, show (1600 : Int32) = nI 1600 from rfl, if_pos (nI_lt h16 (by decide)), jp_322_0, t_isOr hw m1.1 d1]
          simp only [Option.bind_some]
          rw [z_b1 hs, e2]
          simp only [Option.bind_some]
          rw [e3, nI_1]; rfl
        have go : ∀ f, n + 5 ≤ f + b → ∃ f', n + 5 ≤ f' + z_en T n b1 ∧ t_A f N = t_A f' N2 := fun f h => by
          obtain ⟨g', f', h', e'⟩ := fu f h
          have bn := m1.1
          obtain ⟨g'', rfl⟩ : ∃ g'', g' = g'' + 1 := ⟨g' - 1, by unfold y_fu at h'; omega⟩
          exact ⟨f', by unfold y_fu at h'; omega, by rw [e', eB]⟩
        rw [st]
        rcases h3 with ⟨w1, b3, s3, a3, Q3, D3, v3, K3, N3, lt3, m3, d3, sf3, hU3, hR3, hb3, hY3, hQ3, r3, y3, eK3, len3, x3, fu3⟩ | ⟨w0, N3, ff, x3, fu3⟩
        · have w1 : w3 = 1 := w1
          simp only [List.nil_append, List.length_nil, Nat.zero_add] at eK3 len3
          have hc : ∀ i, i < 61 → (11 = 10 ∨ 11 = 11) ∧ y_01 (v i) ∧ y_01 (v3 i) ∨ (1 ≤ 11 ∧ 11 ≤ 9) ∧ y_bn (v i) ∧ y_bn (v3 i) := fun i hi => Or.inl ⟨Or.inr rfl, hb i hi, hb3 i hi⟩
          obtain ⟨M4, e4, U4, R4, G4⟩ := c_join (c := 11) (u := u) hU3 (by omega) (hR.f (re2.yf.tr F3) (Nat.lt_succ_self u)) hR3 hc
          rw [w1, if_neg z_10, e4]
          simp only [Option.bind_some]
          have F4 : y_F u M M4 := FF.tr G4.f
          have hle : n - b3 < j := by have := m3.1; omega
          refine ih (n - b3) hle b3 M4 m (t + 1) (Nat.le_refl _) s3 ⟨a3, Q3 ++ [11], 11 :: (D3 ++ D), _, K3, N3, by omega, m3, d3.yg G4, ((sf.tr sf2).tr sf3).tr G4.sf, U4, R4, fun i hi => (y_j_s (hc i hi)).2.2.2 (by decide), y_P.join hY hY3 (Or.inl ⟨Or.inr rfl, fun i hi => ⟨hb i hi, hb3 i hi⟩⟩), fun y hy => ?_, r3, ?_, ?_, ?_, (x1.tr x2).tr x3, fun f h => ?_⟩ F4 (by omega) (by omega)
          · rcases List.mem_append.mp hy with h | h
            · exact Or.inl (hQ3 y h)
            · exact Or.inr (List.mem_singleton.mp h)
          · rw [List.append_assoc]; exact y3
          · rw [List.reverse_append, List.append_assoc, eK3]
            show 11 :: (D3 ++ (D ++ K)) = 11 :: (D3 ++ D ++ K)
            rw [List.append_assoc]
          · simp only [List.length_cons, List.length_nil, List.length_append] at *
            omega
          · obtain ⟨f', h', e'⟩ := go f h
            obtain ⟨g3, f3, h3', e3'⟩ := fu3 f' h'
            exact ⟨g3, f3, h3', e'.trans e3'⟩
        · have w0 : w3 = 0 := w0
          rw [w0, if_pos rfl]
          refine ⟨_, rfl, Or.inr ⟨M3, rfl, FF, N3, ff, (x1.tr x2).tr x3, fun f h => ?_⟩⟩
          obtain ⟨f', h', e'⟩ := go f h
          exact e'.trans (fu3 f' h')
      · refine ⟨.inl M1, ?_, Or.inl ⟨M1, rfl, hF, b1, ⟨hna, hs⟩, hok'⟩⟩
        rw [lp_Qu_test_12, show (1600 : Int32) = nI 1600 from rfl, if_pos (nI_lt h16 (by decide)), jp_322_0, t_isOr hw m1.1 d1]
        simp only [Option.bind_some]
        rw [z_b0 hs]
    · refine ⟨.inl M1, ?_, Or.inl ⟨M1, rfl, hF, b1, ⟨hna, y_nois hw m1.1 (by omega)⟩, hok'⟩⟩
      rw [lp_Qu_test_12, show (1600 : Int32) = nI 1600 from rfl, if_neg (nI_nlt (by omega) (by have := m1.1; omega))]
theorem t_test (hw : z_wt n T) (hW : z_WB A nm P) (ho : o ≤ 6) (hP : t_CB T n oo A nm P k o) : t_CT T n oo A nm P (k + 1) o := by
  have hn := hw.1
  intro b u W K M N hI hN hN2 hV hu
  show ∃ r, fb_Qu_test (fg_Qu_test k) 322 (nI o) M = some r ∧ _
  unfold fb_Qu_test
  obtain ⟨⟨w1, M1⟩, e1, F1, h1⟩ := hP b u W K M N hI (fun x e h => hN x e (Or.inl h)) hN2 hV (by omega)
  have F1 : y_F u M M1 := F1
  rw [e1]
  simp only [Option.bind_some]
  rcases h1 with ⟨v1, b1, s1, h1⟩ | ⟨v0, h1⟩
  · have v1 : w1 = 1 := v1
    rw [v1, if_neg z_10]
    have h1' : t_ok y_11 T n b A (r_v A (z_pa P)) o u W [] K M N b1 M1 := by
      obtain ⟨a1, Q, D, v, K1, N1, lt, m1, d1, sf, hU, hR, hb, hY, hQ, r1, y1, eK, len, x1, fu⟩ := h1
      exact ⟨a1, Q, D, v, K1, N1, lt, m1, d1, sf, hU, hR, hb, hY, fun x hx => Or.inl (hQ x hx), r1, y1, eK, len, x1, fu⟩
    obtain ⟨w, ew, hw'⟩ := t_testL hw hW ho hP hI hN hV hu (n - b1) b1 M1 jfuel 0 (Nat.le_refl _) s1 h1' F1 (Nat.zero_le _) (by rw [z_jf]; omega)
    rw [zl_0, ew]
    rcases hw' with ⟨M', rfl, F', b', s', h'⟩ | ⟨M', rfl, F', h'⟩
    · exact ⟨(1, M'), rfl, F', Or.inl ⟨rfl, b', s', h'⟩⟩
    · exact ⟨(0, M'), rfl, F', Or.inr ⟨rfl, h'⟩⟩
  · have v0 : w1 = 0 := v0
    rw [v0, if_pos rfl]
    exact ⟨(0, M1), rfl, F1, Or.inr ⟨rfl, h1⟩⟩
end
