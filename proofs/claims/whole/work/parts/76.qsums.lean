/-! ===== pure: products and SUMs, both ===== -/
def y_fu (n b g f : Nat) : Prop := n + 5 ≤ g + b ∧ n + 5 ≤ f + b
def y_ok (qp : Nat → Prop) (T : Nat → Nat) (n b : Nat) (A : ZA) (F : Nat → ZS) (o B u : Nat) (W L K : List Nat) (M N : SM) (b' : Nat) (M' : SM) : Prop :=
  ∃ a' Q D v K' N', b < b' ∧ z_mb T n b' ∧ z_RD T n b' M' ∧ z_SF M M' ∧ M'.1 322 3 = nI (u + 1) ∧ y_R u v M' ∧ (∀ i, i < 61 → y_bn (v i)) ∧ y_P A F D v ∧
    (∀ x, x ∈ Q → qp x) ∧ z_RF T n b' a' N' ∧ y_M B o (Q ++ W) K' N' ∧ Q.reverse ++ K' = L ++ (D ++ K) ∧ Q.length + K'.length + b ≤ L.length + K.length + b' ∧ y_X N N' ∧
    ∀ g f, y_fu n b g f → ∃ g' f', y_fu n b' g' f' ∧ y_A g f N = y_B g' f' N'
def y_bad (n b : Nat) (N M' : SM) : Prop := ∃ N', z_FF M' N' ∧ y_X N N' ∧ y_cb N' ∧ ∀ g f, y_fu n b g f → y_A g f N = some N'
def y_res (qp sp : Nat → Prop) (T : Nat → Nat) (n b : Nat) (A : ZA) (F : Nat → ZS) (o B u : Nat) (W L K : List Nat) (M N : SM) (r : Int32 × SM) : Prop :=
  y_F u M r.2 ∧ ((r.1 = 1 ∧ ∃ b', sp b' ∧ y_ok qp T n b A F o B u W L K M N b' r.2) ∨ (r.1 = 0 ∧ y_bad n b N r.2))
def y_I (T : Nat → Nat) (n b oo : Nat) (A : ZA) (nm : Nat → Nat → Nat) (P : ZP) (u B o : Nat) (W K : List Nat) (M N : SM) : Prop :=
  z_mb T n b ∧ z_RD T n b M ∧ z_tc n T M ∧ y_C oo A nm P M ∧ M.1 322 3 = nI u ∧ (∃ a, z_RF T n b a N) ∧ z_KW N ∧ y_M B o W K N ∧ W.length + K.length ≤ b
def y_CP (T : Nat → Nat) (n oo : Nat) (A : ZA) (nm : Nat → Nat → Nat) (P : ZP) (k o : Nat) : Prop := ∀ b B u Lk W0 K M N, y_I T n b oo A nm P u B o (Lk ++ W0) K M N → (∀ x, x ∈ Lk → 60 ≤ x) → y_tp B W0 → Lk.length ≤ o → u ≤ 3 * o + 5 →
  ∃ r, (fg_Qu_sum k).2.2.1 322 (nI o) M = some r ∧ y_res (fun _ => False) (fun _ => True) T n b A (r_v A (z_pa P)) (o - Lk.length) B u W0 Lk.reverse K M N r
def y_CO (T : Nat → Nat) (n oo : Nat) (A : ZA) (nm : Nat → Nat → Nat) (P : ZP) (k o : Nat) : Prop := ∀ b B u W K M N, y_I T n b oo A nm P u B o W K M N → y_tp B W → y_nh y_mu W → u ≤ 3 * o + 4 →
  ∃ r, (fg_Qu_sum k).2.1 322 (nI o) M = some r ∧ y_res y_mu (fun b' => ¬ z_sg T n b' 42 ∧ ¬ z_sg T n b' 47) T n b A (r_v A (z_pa P)) o B u W [] K M N r
def y_CS (T : Nat → Nat) (n oo : Nat) (A : ZA) (nm : Nat → Nat → Nat) (P : ZP) (k o : Nat) : Prop := ∀ b B u W K M N, y_I T n b oo A nm P u B o W K M N → y_tp B W → y_nh y_su W → u ≤ 3 * o + 3 →
  ∃ r, (fg_Qu_sum k).1 322 (nI o) M = some r ∧ y_res y_su (fun b' => (¬ z_sg T n b' 42 ∧ ¬ z_sg T n b' 47) ∧ ¬ z_sg T n b' 43 ∧ ¬ z_sg T n b' 45) T n b A (r_v A (z_pa P)) o B u W [] K M N r
section
variable {T : Nat → Nat} {n b b' oo u u' B B' o o' k : Nat} {A : ZA} {nm : Nat → Nat → Nat} {P : ZP} {W K W' K' : List Nat} {M N M' N' : SM}
theorem y_I.to {w a' : Nat} (h : y_I T n b oo A nm P u B o W K M N) (hW : z_WB A nm P) (kF : y_F w M M') (hm : z_mb T n b') (hD : z_RD T n b' M') (hU : M'.1 322 3 = nI u') (x : y_X N N') (r : z_RF T n b' a' N') (m : y_M B' o' W' K' N') (l : W'.length + K'.length ≤ b') : y_I T n b' oo A nm P u' B' o' W' K' M' N' :=
  ⟨hm, hD, h.2.2.1.yf kF, h.2.2.2.1.f hW kF, hU, ⟨a', r⟩, z_KW.yx h.2.2.2.2.2.2.1 x, m, l⟩
theorem y_nosg {c : Nat} (hw : z_wt n T) (hb : b ≤ n) (h : 1600 ≤ b) : ¬ z_sg T n b c := fun s => by
  have := hw.1
  have := (z_so_3.mp s.1).1
  have := z_sk_s (T := T) hb
  omega
theorem y_fu.up {g f g' f' : Nat} (h : y_fu n b g f) (hb : b < b') (hg : g ≤ g' + 1) (hf : f ≤ f' + 1) : y_fu n b' g' f' := by unfold y_fu at *; omega
theorem y_fu.j (hw : z_wt n T) {g f f' : Nat} (h : y_fu n b g f) (hb : b < b') (hf : f ≤ f' + 1) : y_fu n b' jfuel f' := by
  have := hw.1
  unfold y_fu at *; rw [z_jf]; omega
theorem y_tp.cons {x : Nat} (h : y_tp B W) (hx : x < 60) : y_tp B (x :: W) := by
  right
  refine ⟨?_, fun y e => ?_⟩
  · rw [List.length_cons]; rcases h with q | q <;> omega
  · obtain rfl := Option.some.inj e; omega
theorem y_nh.cons {p : Nat → Prop} {x : Nat} (h : ¬ p x) : y_nh p (x :: W) := fun y e => by
  obtain rfl := Option.some.inj e; exact h
theorem y_cs15 (hw : z_wt n T) (h : z_tc n T M) (hb : b ≤ n) (hD : z_RD T n b M) : f_Qu_signAmong 322 1015 M = some (if z_sg T n b 42 then nI 42 else if z_sg T n b 47 then nI 47 else 32) :=
  c_signs hw h hb hD (by decide +kernel) (by decide +kernel) (by decide +kernel) (by decide) (by decide)
theorem y_cs16 (hw : z_wt n T) (h : z_tc n T M) (hb : b ≤ n) (hD : z_RD T n b M) : f_Qu_signAmong 322 1016 M = some (if z_sg T n b 43 then nI 43 else if z_sg T n b 45 then nI 45 else 32) :=
  c_signs hw h hb hD (by decide +kernel) (by decide +kernel) (by decide +kernel) (by decide) (by decide)
theorem y_nil {Q : List Nat} (h : ∀ x, x ∈ Q → False) : Q = [] := List.eq_nil_iff_forall_not_mem.mpr h
theorem y_prodL (hw : z_wt n T) (hW : z_WB A nm P) (ho : o ≤ 6) (hP : y_CP T n oo A nm P k o) {M N : SM} (hI : y_I T n b oo A nm P u B o W K M N) (hT : y_tp B W) (hN : y_nh y_mu W) (hu : u ≤ 3 * o + 4) : ∀ j b1 M1 m t, n - b1 ≤ j → y_ok y_mu T n b A (r_v A (z_pa P)) o B u W [] K M N b1 M1 → y_F u M M1 → t ≤ b1 → j < m →
    ∃ w, lp_Qu_product_12 (fg_Qu_sum k) 322 (nI o) m (nI t) M1 = some w ∧ ((∃ M', w = .inl M' ∧ y_F u M M' ∧ ∃ b', (¬ z_sg T n b' 42 ∧ ¬ z_sg T n b' 47) ∧ y_ok y_mu T n b A (r_v A (z_pa P)) o B u W [] K M N b' M') ∨ (∃ M', w = .inr (0, M') ∧ y_F u M M' ∧ y_bad n b N M')) := by
  have hn := hw.1
  intro j
  induction j using Nat.strongRecOn with
  | _ j ih =>
    intro b1 M1 m t hj hok hF ht hjm
    obtain ⟨m, rfl⟩ : ∃ m', m = m' + 1 := ⟨m - 1, by omega⟩
    obtain ⟨a1, Q, D, v, K1, N1, lt, m1, d1, sf, hU, hR, hb, hY, hQ, r1, y1, eK, len, x1, fu⟩ := hok
    have hok' : y_ok y_mu T n b A (r_v A (z_pa P)) o B u W [] K M N b1 M1 := ⟨a1, Q, D, v, K1, N1, lt, m1, d1, sf, hU, hR, hb, hY, hQ, r1, y1, eK, len, x1, fu⟩
    have tc1 := hI.2.2.1.yf hF
    by_cases h16 : t < 1600
    · by_cases hs : z_sg T n b1 42 ∨ z_sg T n b1 47
      · obtain ⟨c, hc, hs⟩ : ∃ c, (c = 42 ∨ c = 47) ∧ z_sg T n b1 c := by
          rcases hs with h | h
          · exact ⟨42, Or.inl rfl, h⟩
          · exact ⟨47, Or.inr rfl, h⟩
        have es : f_Qu_signAmong 322 1015 M1 = some (nI c) := by
          rw [y_cs15 hw tc1 m1.1 d1]
          rcases hc with rfl | rfl
          · rw [if_pos hs]
          · rw [if_neg (fun h => by have := y_sg1 hs h; omega), if_pos hs]
        have c32 : ¬ nI c = 32 := by rcases hc with rfl | rfl <;> decide
        have hen := z_en_s (T := T) m1.1
        have hlt := hen.2.2.1 (z_so_3.mp hs.1).1
        have hsk := z_sk_s (T := T) m1.1
        obtain ⟨M2, e2, d2, re2, sf2⟩ := c_next hw tc1 m1.1 d1
        obtain ⟨N2, eB, r2, y2, x2⟩ := y_B_mul hc hw m1 r1 hs y1 hQ hN (by have := hI.2.2.2.2.2.2.2.2; have := m1.1; simp only [List.length_nil] at len; omega)
        rw [eK] at y2
        have eL : (Q.reverse ++ K1).length = (D ++ K).length := by rw [eK]; rfl
        simp only [List.length_append, List.length_reverse] at eL
        simp only [List.length_nil] at len
        have hl := hI.2.2.2.2.2.2.2.2
        have xc : ∃ x, x = (if c = 42 then 3 else 4) ∧ y_mu x ∧ nI c = y_sg x ∧ 1 ≤ x ∧ x ≤ 9 := by rcases hc with rfl | rfl <;> exact ⟨_, rfl, by unfold y_mu; decide, by decide, by decide, by decide⟩
        obtain ⟨x, ex, hx, eg, xx1, xx9⟩ := xc
        rw [← ex] at y2
        have hI2 : y_I T n (z_en T n b1) oo A nm P (u + 1) B o (x :: W) (D ++ K) M2 N2 := hI.to hW (hF.tr re2.yf) hen.2.2.2 d2 (by rw [re2.1 322 (by omega)]; exact hU) (x1.tr x2) r2 y2 (by rw [List.length_cons, List.length_append]; omega)
        obtain ⟨⟨w3, M3⟩, e3, F3, h3⟩ := hP (z_en T n b1) B (u + 1) [] (x :: W) (D ++ K) M2 N2 hI2 (fun _ h => nomatch h) (hT.cons (by rcases hx with rfl | rfl <;> decide)) (Nat.zero_le _) (by omega)
        have F3 : y_F (u + 1) M2 M3 := F3
        have FF : y_F u M M3 := (hF.tr re2.yf).tr (F3.dn (by omega))
        have st : lp_Qu_product_12 (fg_Qu_sum k) 322 (nI o) (m + 1) (nI t) M1 = if w3 = 0 then some (.inr (0, M3)) else ((f_Qu_join 322 (nI c) M3).bind fun q10 => lp_Qu_product_12 (fg_Qu_sum k) 322 (nI o) m (nI (t + 1)) q10) := by
          rw [lp_Qu_product_12, show (1600 : Int32) = nI 1600 from rfl, if_pos (nI_lt h16 (by decide)), es, jp_322_0]
          simp only [Option.bind_some]
          rw [if_neg c32, e2]
          simp only [Option.bind_some]
          rw [e3, nI_1]; rfl
        have go : ∀ g f, y_fu n b g f → ∃ f', y_fu n (z_en T n b1) jfuel f' ∧ y_A g f N = y_A jfuel f' N2 := fun g f h => by
          obtain ⟨g', f', h', e'⟩ := fu g f h
          have bn := m1.1
          obtain ⟨g'', rfl⟩ : ∃ g'', g' = g'' + 1 := ⟨g' - 1, by unfold y_fu at h'; omega⟩
          obtain ⟨f'', rfl⟩ : ∃ f'', f' = f'' + 1 := ⟨f' - 1, by unfold y_fu at h'; omega⟩
          exact ⟨f'', h'.j hw (by omega) (Nat.le_refl _), by rw [e', eB]⟩
        rw [st]
        rcases h3 with ⟨w1, b3, _, a3, Q3, D3, v3, K3, N3, lt3, m3, d3, sf3, hU3, hR3, hb3, hY3, hQ3, r3, y3, eK3, len3, x3, fu3⟩ | ⟨w0, N3, ff, x3, cb3, fu3⟩
        · have w1 : w3 = 1 := w1
          obtain rfl := y_nil hQ3
          simp only [List.reverse_nil, List.nil_append, List.length_nil, Nat.zero_add, Nat.sub_zero] at y3 eK3 len3
          rw [w1, if_neg z_10, eg]
          obtain ⟨M4, e4, U4, R4, G4⟩ := c_join (c := x) (u := u) hU3 (by omega) (hR.f (re2.yf.tr F3) (Nat.lt_succ_self u)) hR3 (fun i hi => Or.inr ⟨⟨xx1, xx9⟩, hb i hi, hb3 i hi⟩)
          rw [e4]
          simp only [Option.bind_some]
          have F4 : y_F u M M4 := FF.tr G4.f
          have hle : n - b3 < j := by have := m3.1; omega
          refine ih (n - b3) hle b3 M4 m (t + 1) (Nat.le_refl _) ⟨a3, [x], x :: (D3 ++ D), _, K3, N3, by omega, m3, d3.yg G4, ((sf.tr sf2).tr sf3).tr G4.sf, U4, R4, fun i hi => (y_j_s (Or.inr ⟨⟨xx1, xx9⟩, hb i hi, hb3 i hi⟩)).2.2.1, y_P.join hY hY3 (Or.inr ⟨⟨xx1, xx9⟩, fun i hi => ⟨hb i hi, hb3 i hi⟩⟩), fun y hy => by rw [List.mem_singleton.mp hy]; exact hx, r3, y3, ?_, ?_, (x1.tr x2).tr x3, fun g f h => ?_⟩ F4 (by omega) (by omega)
          · rw [eK3]
            show x :: (D3 ++ (D ++ K)) = x :: (D3 ++ D ++ K)
            rw [List.append_assoc]
          · simp only [List.length_cons, List.length_nil, List.length_append] at *
            omega
          · obtain ⟨f', h', e'⟩ := go g f h
            obtain ⟨g3, f3, h3', e3'⟩ := fu3 jfuel f' h'
            exact ⟨g3, f3, h3', e'.trans e3'⟩
        · have w0 : w3 = 0 := w0
          rw [w0, if_pos rfl]
          refine ⟨_, rfl, Or.inr ⟨M3, rfl, FF, N3, ff, (x1.tr x2).tr x3, cb3, fun g f h => ?_⟩⟩
          obtain ⟨f', h', e'⟩ := go g f h
          exact e'.trans (fu3 jfuel f' h')
      · refine ⟨.inl M1, ?_, Or.inl ⟨M1, rfl, hF, b1, ⟨fun h => hs (Or.inl h), fun h => hs (Or.inr h)⟩, hok'⟩⟩
        rw [lp_Qu_product_12, show (1600 : Int32) = nI 1600 from rfl, if_pos (nI_lt h16 (by decide)), y_cs15 hw tc1 m1.1 d1, if_neg (fun h => hs (Or.inl h)), if_neg (fun h => hs (Or.inr h))]
        rfl
    · refine ⟨.inl M1, ?_, Or.inl ⟨M1, rfl, hF, b1, ⟨y_nosg hw m1.1 (by omega), y_nosg hw m1.1 (by omega)⟩, hok'⟩⟩
      rw [lp_Qu_product_12, show (1600 : Int32) = nI 1600 from rfl, if_neg (nI_nlt (by omega) (by have := m1.1; omega))]
theorem y_prod (hw : z_wt n T) (hW : z_WB A nm P) (ho : o ≤ 6) (hP : y_CP T n oo A nm P k o) : y_CO T n oo A nm P (k + 1) o := by
  have hn := hw.1
  intro b B u W K M N hI hT hN hu
  show ∃ r, fb_Qu_product (fg_Qu_sum k) 322 (nI o) M = some r ∧ _
  unfold fb_Qu_product
  obtain ⟨⟨w1, M1⟩, e1, F1, h1⟩ := hP b B u [] W K M N hI (fun _ h => nomatch h) hT (Nat.zero_le _) (by omega)
  have F1 : y_F u M M1 := F1
  rw [e1]
  simp only [Option.bind_some]
  rcases h1 with ⟨v1, b1, _, h1⟩ | ⟨v0, h1⟩
  · have v1 : w1 = 1 := v1
    rw [v1, if_neg z_10]
    have h1' : y_ok y_mu T n b A (r_v A (z_pa P)) o B u W [] K M N b1 M1 := by
      obtain ⟨a1, Q, D, v, K1, N1, lt, m1, d1, sf, hU, hR, hb, hY, hQ, r1, y1, eK, len, x1, fu⟩ := h1
      exact ⟨a1, Q, D, v, K1, N1, lt, m1, d1, sf, hU, hR, hb, hY, fun x hx => (hQ x hx).elim, r1, y1, eK, len, x1, fu⟩
    obtain ⟨w, ew, hw'⟩ := y_prodL hw hW ho hP hI hT hN hu (n - b1) b1 M1 jfuel 0 (Nat.le_refl _) h1' F1 (Nat.zero_le _) (by rw [z_jf]; omega)
    rw [zl_0, ew]
    rcases hw' with ⟨M', rfl, F', b', s', h'⟩ | ⟨M', rfl, F', h'⟩
    · exact ⟨(1, M'), rfl, F', Or.inl ⟨rfl, b', s', h'⟩⟩
    · exact ⟨(0, M'), rfl, F', Or.inr ⟨rfl, h'⟩⟩
  · have v0 : w1 = 0 := v0
    rw [v0, if_pos rfl]
    exact ⟨(0, M1), rfl, F1, Or.inr ⟨rfl, h1⟩⟩
theorem y_sumL (hw : z_wt n T) (hW : z_WB A nm P) (ho : o ≤ 6) (hP : y_CO T n oo A nm P k o) {M N : SM} (hI : y_I T n b oo A nm P u B o W K M N) (hT : y_tp B W) (hN : y_nh y_su W) (hu : u ≤ 3 * o + 3) : ∀ j b1 M1 m t, n - b1 ≤ j → (¬ z_sg T n b1 42 ∧ ¬ z_sg T n b1 47) → y_ok y_su T n b A (r_v A (z_pa P)) o B u W [] K M N b1 M1 → y_F u M M1 → t ≤ b1 → j < m →
    ∃ w, lp_Qu_sum_12 (fg_Qu_sum k) 322 (nI o) m (nI t) M1 = some w ∧ ((∃ M', w = .inl M' ∧ y_F u M M' ∧ ∃ b', ((¬ z_sg T n b' 42 ∧ ¬ z_sg T n b' 47) ∧ ¬ z_sg T n b' 43 ∧ ¬ z_sg T n b' 45) ∧ y_ok y_su T n b A (r_v A (z_pa P)) o B u W [] K M N b' M') ∨ (∃ M', w = .inr (0, M') ∧ y_F u M M' ∧ y_bad n b N M')) := by
  have hn := hw.1
  intro j
  induction j using Nat.strongRecOn with
  | _ j ih =>
    intro b1 M1 m t hj h47 hok hF ht hjm
    obtain ⟨m, rfl⟩ : ∃ m', m = m' + 1 := ⟨m - 1, by omega⟩
    obtain ⟨a1, Q, D, v, K1, N1, lt, m1, d1, sf, hU, hR, hb, hY, hQ, r1, y1, eK, len, x1, fu⟩ := hok
    have hok' : y_ok y_su T n b A (r_v A (z_pa P)) o B u W [] K M N b1 M1 := ⟨a1, Q, D, v, K1, N1, lt, m1, d1, sf, hU, hR, hb, hY, hQ, r1, y1, eK, len, x1, fu⟩
    have tc1 := hI.2.2.1.yf hF
    by_cases h16 : t < 1600
    · by_cases hs : z_sg T n b1 43 ∨ z_sg T n b1 45
      · obtain ⟨c, hc, hs⟩ : ∃ c, (c = 43 ∨ c = 45) ∧ z_sg T n b1 c := by
          rcases hs with h | h
          · exact ⟨43, Or.inl rfl, h⟩
          · exact ⟨45, Or.inr rfl, h⟩
        have es : f_Qu_signAmong 322 1016 M1 = some (nI c) := by
          rw [y_cs16 hw tc1 m1.1 d1]
          rcases hc with rfl | rfl
          · rw [if_pos hs]
          · rw [if_neg (fun h => by have := y_sg1 hs h; omega), if_pos hs]
        have c32 : ¬ nI c = 32 := by rcases hc with rfl | rfl <;> decide
        have hen := z_en_s (T := T) m1.1
        have hlt := hen.2.2.1 (z_so_3.mp hs.1).1
        have hsk := z_sk_s (T := T) m1.1
        obtain ⟨M2, e2, d2, re2, sf2⟩ := c_next hw tc1 m1.1 d1
        obtain ⟨N2, eB, r2, y2, x2⟩ := y_B_add hc hw m1 r1 hs y1 hQ hN (by have := hI.2.2.2.2.2.2.2.2; have := m1.1; simp only [List.length_nil] at len; omega)
        rw [eK] at y2
        have eL : (Q.reverse ++ K1).length = (D ++ K).length := by rw [eK]; rfl
        simp only [List.length_append, List.length_reverse] at eL
        simp only [List.length_nil] at len
        have hl := hI.2.2.2.2.2.2.2.2
        have xc : ∃ x, x = (if c = 43 then 1 else 2) ∧ (x = 1 ∨ x = 2) ∧ nI c = y_sg x ∧ 1 ≤ x ∧ x ≤ 9 := by rcases hc with rfl | rfl <;> exact ⟨_, rfl, by decide, by decide, by decide, by decide⟩
        obtain ⟨x, ex, hx, eg, xx1, xx9⟩ := xc
        rw [← ex] at y2
        have hI2 : y_I T n (z_en T n b1) oo A nm P (u + 1) B o (x :: W) (D ++ K) M2 N2 := hI.to hW (hF.tr re2.yf) hen.2.2.2 d2 (by rw [re2.1 322 (by omega)]; exact hU) (x1.tr x2) r2 y2 (by rw [List.length_cons, List.length_append]; omega)
        obtain ⟨⟨w3, M3⟩, e3, F3, h3⟩ := hP (z_en T n b1) B (u + 1) (x :: W) (D ++ K) M2 N2 hI2 (hT.cons (by rcases hx with rfl | rfl <;> decide)) (y_nh.cons (by unfold y_mu; omega)) (by omega)
        have F3 : y_F (u + 1) M2 M3 := F3
        have FF : y_F u M M3 := (hF.tr re2.yf).tr (F3.dn (by omega))
        have st : lp_Qu_sum_12 (fg_Qu_sum k) 322 (nI o) (m + 1) (nI t) M1 = if w3 = 0 then some (.inr (0, M3)) else ((f_Qu_join 322 (nI c) M3).bind fun q10 => lp_Qu_sum_12 (fg_Qu_sum k) 322 (nI o) m (nI (t + 1)) q10) := by
          rw [lp_Qu_sum_12, show (1600 : Int32) = nI 1600 from rfl, if_pos (nI_lt h16 (by decide)), es, jp_322_0]
          simp only [Option.bind_some]
          rw [if_neg c32, e2]
          simp only [Option.bind_some]
          rw [e3, nI_1]; rfl
        have go : ∀ g f, y_fu n b g f → ∃ f', y_fu n (z_en T n b1) jfuel f' ∧ y_A g f N = y_A jfuel f' N2 := fun g f h => by
          obtain ⟨g', f', h', e'⟩ := fu g f h
          have bn := m1.1
          obtain ⟨g'', rfl⟩ : ∃ g'', g' = g'' + 1 := ⟨g' - 1, by unfold y_fu at h'; omega⟩
          obtain ⟨f'', rfl⟩ : ∃ f'', f' = f'' + 1 := ⟨f' - 1, by unfold y_fu at h'; omega⟩
          exact ⟨f'', h'.j hw (by omega) (Nat.le_refl _), by rw [e', eB]⟩
        rw [st]
        rcases h3 with ⟨w1, b3, s3, a3, Q3, D3, v3, K3, N3, lt3, m3, d3, sf3, hU3, hR3, hb3, hY3, hQ3, r3, y3, eK3, len3, x3, fu3⟩ | ⟨w0, N3, ff, x3, cb3, fu3⟩
        · have w1 : w3 = 1 := w1
          simp only [List.nil_append, List.length_nil, Nat.zero_add] at eK3 len3
          rw [w1, if_neg z_10, eg]
          obtain ⟨M4, e4, U4, R4, G4⟩ := c_join (c := x) (u := u) hU3 (by omega) (hR.f (re2.yf.tr F3) (Nat.lt_succ_self u)) hR3 (fun i hi => Or.inr ⟨⟨xx1, xx9⟩, hb i hi, hb3 i hi⟩)
          rw [e4]
          simp only [Option.bind_some]
          have F4 : y_F u M M4 := FF.tr G4.f
          have hle : n - b3 < j := by have := m3.1; omega
          refine ih (n - b3) hle b3 M4 m (t + 1) (Nat.le_refl _) s3 ⟨a3, Q3 ++ [x], x :: (D3 ++ D), _, K3, N3, by omega, m3, d3.yg G4, ((sf.tr sf2).tr sf3).tr G4.sf, U4, R4, fun i hi => (y_j_s (Or.inr ⟨⟨xx1, xx9⟩, hb i hi, hb3 i hi⟩)).2.2.1, y_P.join hY hY3 (Or.inr ⟨⟨xx1, xx9⟩, fun i hi => ⟨hb i hi, hb3 i hi⟩⟩), fun y hy => ?_, r3, ?_, ?_, ?_, (x1.tr x2).tr x3, fun g f h => ?_⟩ F4 (by omega) (by omega)
          · rcases List.mem_append.mp hy with h | h
            · have := hQ3 y h; unfold y_mu at this; unfold y_su; omega
            · rw [List.mem_singleton.mp h]; unfold y_su; omega
          · rw [List.append_assoc]; exact y3
          · rw [List.reverse_append, List.append_assoc, eK3]
            show x :: (D3 ++ (D ++ K)) = x :: (D3 ++ D ++ K)
            rw [List.append_assoc]
          · simp only [List.length_cons, List.length_nil, List.length_append] at *
            omega
          · obtain ⟨f', h', e'⟩ := go g f h
            obtain ⟨g3, f3, h3', e3'⟩ := fu3 jfuel f' h'
            exact ⟨g3, f3, h3', e'.trans e3'⟩
        · have w0 : w3 = 0 := w0
          rw [w0, if_pos rfl]
          refine ⟨_, rfl, Or.inr ⟨M3, rfl, FF, N3, ff, (x1.tr x2).tr x3, cb3, fun g f h => ?_⟩⟩
          obtain ⟨f', h', e'⟩ := go g f h
          exact e'.trans (fu3 jfuel f' h')
      · refine ⟨.inl M1, ?_, Or.inl ⟨M1, rfl, hF, b1, ⟨h47, fun h => hs (Or.inl h), fun h => hs (Or.inr h)⟩, hok'⟩⟩
        rw [lp_Qu_sum_12, show (1600 : Int32) = nI 1600 from rfl, if_pos (nI_lt h16 (by decide)), y_cs16 hw tc1 m1.1 d1, if_neg (fun h => hs (Or.inl h)), if_neg (fun h => hs (Or.inr h))]
        rfl
    · refine ⟨.inl M1, ?_, Or.inl ⟨M1, rfl, hF, b1, ⟨h47, y_nosg hw m1.1 (by omega), y_nosg hw m1.1 (by omega)⟩, hok'⟩⟩
      rw [lp_Qu_sum_12, show (1600 : Int32) = nI 1600 from rfl, if_neg (nI_nlt (by omega) (by have := m1.1; omega))]
theorem y_sum (hw : z_wt n T) (hW : z_WB A nm P) (ho : o ≤ 6) (hP : y_CO T n oo A nm P k o) : y_CS T n oo A nm P (k + 1) o := by
  have hn := hw.1
  intro b B u W K M N hI hT hN hu
  show ∃ r, fb_Qu_sum (fg_Qu_sum k) 322 (nI o) M = some r ∧ _
  unfold fb_Qu_sum
  obtain ⟨⟨w1, M1⟩, e1, F1, h1⟩ := hP b B u W K M N hI hT (fun x e h => hN x e (by unfold y_mu at h; unfold y_su; omega)) (by omega)
  have F1 : y_F u M M1 := F1
  rw [e1]
  simp only [Option.bind_some]
  rcases h1 with ⟨v1, b1, s1, h1⟩ | ⟨v0, h1⟩
  · have v1 : w1 = 1 := v1
    rw [v1, if_neg z_10]
    have h1' : y_ok y_su T n b A (r_v A (z_pa P)) o B u W [] K M N b1 M1 := by
      obtain ⟨a1, Q, D, v, K1, N1, lt, m1, d1, sf, hU, hR, hb, hY, hQ, r1, y1, eK, len, x1, fu⟩ := h1
      exact ⟨a1, Q, D, v, K1, N1, lt, m1, d1, sf, hU, hR, hb, hY, fun x hx => by have := hQ x hx; unfold y_mu at this; unfold y_su; omega, r1, y1, eK, len, x1, fu⟩
    obtain ⟨w, ew, hw'⟩ := y_sumL hw hW ho hP hI hT hN hu (n - b1) b1 M1 jfuel 0 (Nat.le_refl _) s1 h1' F1 (Nat.zero_le _) (by rw [z_jf]; omega)
    rw [zl_0, ew]
    rcases hw' with ⟨M', rfl, F', b', s', h'⟩ | ⟨M', rfl, F', h'⟩
    · exact ⟨(1, M'), rfl, F', Or.inl ⟨rfl, b', s', h'⟩⟩
    · exact ⟨(0, M'), rfl, F', Or.inr ⟨rfl, h'⟩⟩
  · have v0 : w1 = 0 := v0
    rw [v0, if_pos rfl]
    exact ⟨(0, M1), rfl, F1, Or.inr ⟨rfl, h1⟩⟩
end
