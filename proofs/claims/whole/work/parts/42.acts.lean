/-! ===== pure: acts ===== -/
/-- two PARTS of a DESK that tell the same -/
def z_sa (P Q : ZP) (d : Nat) : Prop := P.1 d = Q.1 d ∧ ∀ b, z_pa P d b = z_pa Q d b
/-- what the class keeps of hn ACTS: G 0 as all is, G 1 behind one that is undone .. -/
def z_HC (n : Nat) (G : Nat → ZP) (hn : Nat) (M : SM) : Prop := hn ≤ 20 ∧ M.1 108 4 = nI hn ∧ ∃ nx, nx < 20 ∧ M.1 108 3 = nI nx ∧ ∀ j, j < hn → ∃ d, d < n ∧ M.1 109 ((nx + 19 - j) % 20) = nI d ∧ M.1 110 ((nx + 19 - j) % 20) = nI ((G (j + 1)).1 d) ∧ (∀ b, 1 ≤ b → b ≤ 60 → M.1 (112 + (nx + 19 - j) % 20) (b - 1) = nI (z_pa (G (j + 1)) d b)) ∧ ∀ e, e < n → e ≠ d → z_sa (G (j + 1)) (G j) e
theorem z_HC.fr {n hn : Nat} {G : Nat → ZP} {M M' : SM} (h : z_HC n G hn M) (k : ∀ i, 108 ≤ i → i < 132 → M'.1 i = M.1 i) : z_HC n G hn M' := by
  obtain ⟨h1, h2, nx, h3, h4, h5⟩ := h
  refine ⟨h1, by rw [k 108 (by decide) (by decide)]; exact h2, nx, h3, by rw [k 108 (by decide) (by decide)]; exact h4, fun j hj => ?_⟩
  rw [k 109 (by decide) (by decide), k 110 (by decide) (by decide), k (112 + (nx + 19 - j) % 20) (by omega) (by omega)]
  exact h5 j hj
def z_KR (s n : Nat) (P : ZP) (M : SM) : Prop := ∀ d, d < n → M.1 404 (488 * s + 61 * d) = nI (P.1 d) ∧ ∀ b, 1 ≤ b → b ≤ P.1 d → M.1 404 (488 * s + 61 * d + b) = nI (P.2 d b)
def z_HR (n : Nat) (G : Nat → ZP) (hn : Nat) (M : SM) : Prop := hn ≤ 20 ∧ M.1 366 63 = nI hn ∧ ∃ nw, nw < 20 ∧ M.1 366 64 = nI nw ∧ ∀ j, j < hn → z_KR ((nw + 20 - j) % 20) n (G (j + 1)) M
theorem z_HR.fr {n hn : Nat} {G : Nat → ZP} {M M' : SM} (h : z_HR n G hn M) (k1 : M'.1 366 63 = M.1 366 63) (k2 : M'.1 366 64 = M.1 366 64) (k : M'.1 404 = M.1 404) : z_HR n G hn M' := by
  obtain ⟨h1, h2, nx, h3, h4, h5⟩ := h
  refine ⟨h1, k1.trans h2, nx, h3, k2.trans h4, fun j hj d hd => ?_⟩
  rw [k]
  exact h5 j hj d hd
def z_ps (P : ZP) (G : Nat → ZP) : Nat → ZP
  | 0 => P
  | j + 1 => G j
/-- a DESK's BARS from f up to t are v -/
def z_mk (P : ZP) (d f t v : Nat) : ZP := (fun e => if e = d then max (P.1 d) t else P.1 e, fun e b => if e = d then (if f ≤ b ∧ b ≤ t then v else if P.1 d < b then 2 else P.2 d b) else P.2 e b)
theorem z_mk_W {n d f t v : Nat} {P : ZP} (h : z_WP n P) (ht : t ≤ 60) (hv : v ≤ 3) (hd : d < n) : z_WP n (z_mk P d f t v) := by
  intro e he
  have h1 := h e he
  by_cases q : e = d
  · subst q
    refine ⟨?_, fun b hb1 hb2 => ?_⟩
    · show (if e = e then max (P.1 e) t else P.1 e) ≤ 60
      rw [if_pos rfl]; exact Nat.max_le.mpr ⟨h1.1, ht⟩
    · show (if e = e then (if f ≤ b ∧ b ≤ t then v else if P.1 e < b then 2 else P.2 e b) else P.2 e b) ≤ 3
      rw [if_pos rfl]
      split
      · exact hv
      · split
        · decide
        · exact h1.2 b hb1 (by omega)
  · refine ⟨?_, fun b hb1 hb2 => ?_⟩
    · show (if e = d then max (P.1 d) t else P.1 e) ≤ 60
      rw [if_neg q]; exact h1.1
    · show (if e = d then _ else P.2 e b) ≤ 3
      have hb2 : b ≤ (if e = d then max (P.1 d) t else P.1 e) := hb2
      rw [if_neg q] at hb2
      rw [if_neg q]; exact h1.2 b hb1 hb2
theorem z_mk_s {d f t v e : Nat} {P : ZP} (q : e ≠ d) : z_sa P (z_mk P d f t v) e := by
  refine ⟨?_, fun b => ?_⟩
  · show P.1 e = (if e = d then _ else P.1 e)
    rw [if_neg q]
  · show (if 1 ≤ b ∧ b ≤ P.1 e then P.2 e b else 2) = (if 1 ≤ b ∧ b ≤ (if e = d then max (P.1 d) t else P.1 e) then (if e = d then _ else P.2 e b) else 2)
    rw [if_neg q, if_neg q]
/-- how many were otherwise, of k BARS from f on -/
def z_ow (P : ZP) (d v f k : Nat) : Nat := z_it (fun j s => if z_pa P d (f + j) = v then s else s + 1) k 0
section
variable {o n : Nat} {P : ZP} {M N : SM} {d : Nat}
theorem c_actK {nx hn : Nat} (ho : o = 7 ∨ o = 57) (hn8 : n ≤ 8) (hP : z_WP n P) (hT : z_TC o n P M) (hd : d < n) (hnx : nx < 20) (hhn : hn ≤ 20) (h3 : M.1 108 3 = nI nx) (h4 : M.1 108 4 = nI hn) :
    z_ok (f_Ac_keep 108 (o + 39) (nI d) M) (fun M' => z_Fr (fun i => i ≠ 108 ∧ i ≠ 109 ∧ i ≠ 110 ∧ i ≠ 112 + nx) M M' ∧ M'.1 108 3 = nI ((nx + 1) % 20) ∧ M'.1 108 4 = nI (min 20 (hn + 1)) ∧ M'.1 109 nx = nI d ∧ (∀ j, j ≠ nx → M'.1 109 j = M.1 109 j) ∧ M'.1 110 nx = nI (P.1 d) ∧ (∀ j, j ≠ nx → M'.1 110 j = M.1 110 j) ∧ (∀ b, 1 ≤ b → b ≤ 60 → M'.1 (112 + nx) (b - 1) = nI (z_pa P d b))) := by
  unfold f_Ac_keep
  rw [jp_108_0, jp_108_1, h3]
  refine z_eq (zp_109 _ (by omega)) ?_
  have fo : ∀ i, i < 108 → (sI M 109 nx (nI d)).1 i = M.1 i := fun i hi => z_sIa _ _ _ _ (by omega)
  refine z_eq (r := nI (P.1 d)) (by unfold f_Pa_size; rw [jo_39_1 ho, zao_49 ho _ (by omega), fo _ (by omega), (hT d hd).1]; rfl) ?_
  rw [z_sIa _ _ _ _ (by decide), h3]
  refine z_eq (zp_110 _ (by omega)) ?_
  generalize hM1 : sI (sI M 109 nx (nI d)) 110 nx (nI (P.1 d)) = M1
  have g1 : ∀ i, i ≠ 109 → i ≠ 110 → M1.1 i = M.1 i := fun i a b => by rw [← hM1, z_sIa _ _ _ _ b, z_sIa _ _ _ _ a]
  have g2 : M1.1 109 nx = nI d := by rw [← hM1, z_sIa _ _ _ _ (by decide), z_sIs]
  have g3 : ∀ j, j ≠ nx → M1.1 109 j = M.1 109 j := fun j hj => by rw [← hM1, z_sIa _ _ _ _ (by decide), z_sIk _ _ _ _ hj]
  have g4 : M1.1 110 nx = nI (P.1 d) := by rw [← hM1, z_sIs]
  have g5 : ∀ j, j ≠ nx → M1.1 110 j = M.1 110 j := fun j hj => by rw [← hM1, z_sIk _ _ _ _ hj, z_sIa _ _ _ _ (by decide)]
  have g6 : M1.2 = M.2 := by rw [← hM1]; rfl
  refine z_bind (P := fun M' => z_Fr (fun i => i ≠ 112 + nx) M1 M' ∧ ∀ b, 1 ≤ b → b ≤ 60 → M'.1 (112 + nx) (b - 1) = nI (z_pa P d b)) ?_ (fun M2 h2 => ?_)
  · refine z_loop (fun m c s => lp_Ac_keep_30 108 (o + 39) (nI d) m c s) (fun c M' => 1 ≤ c ∧ z_Fr (fun i => i ≠ 112 + nx) M1 M' ∧ ∀ b, 1 ≤ b → b < c → M'.1 (112 + nx) (b - 1) = nI (z_pa P d b)) _ 61 ?_ ?_ jfuel 1 M1 (by decide) (by decide) ⟨by decide, z_Fr.rf, fun b h1 h2 => by omega⟩
    · intro m c M' hc hI k
      obtain ⟨i1, i2, i3⟩ := hI
      have hT' : z_TC o n P M' := hT.fr hn8 (fun i a b => by rw [i2.1 i (by omega), g1 i (by omega) (by omega)])
      show z_ok (lp_Ac_keep_30 108 (o + 39) (nI d) (m + 1) (nI c) M') _
      rw [lp_Ac_keep_30, zl_60]
      refine z_neg (nI_nlt (by omega) (by omega)) ?_
      refine z_eq (c_pact ho hn8 hP hT' hd (by omega)) ?_
      rw [jp_108_2, i2.1 108 (by omega), g1 108 (by decide) (by decide), h3, z_ls i1]
      refine z_eq (zq_111 _ (by omega) (by omega)) ?_
      rw [nI_1]
      refine k _ ⟨by omega, i2.sI (by omega), fun b b1 b2 => ?_⟩
      by_cases e : b = c
      · subst e; exact z_sIs _ _ _ _
      · rw [z_sIk _ _ _ _ (by omega)]; exact i3 b b1 (by omega)
    · intro m M' hI
      show z_ok (lp_Ac_keep_30 108 (o + 39) (nI d) (m + 1) (nI 61) M') _
      rw [lp_Ac_keep_30]
      exact z_pos (by decide) (z_some ⟨hI.2.1, fun b b1 b2 => hI.2.2 b b1 (by omega)⟩)
  · obtain ⟨F2, R2⟩ := h2
    have e3 : M2.1 108 3 = nI nx := by rw [F2.1 108 (by omega), g1 108 (by decide) (by decide)]; exact h3
    have e4 : M2.1 108 4 = nI hn := by rw [F2.1 108 (by omega), g1 108 (by decide) (by decide)]; exact h4
    rw [e3, nI_1]
    refine z_eq (r := nI ((nx + 1) % 20)) (by
      rw [zl_20]
      by_cases q : nx + 1 < 20
      · rw [if_pos (nI_lt q (by decide)), Nat.mod_eq_of_lt q]
      · rw [if_neg (nI_nlt (by omega) (by omega)), show (nx + 1) % 20 = 0 by omega]; rfl) ?_
    rw [z_sIk _ _ _ _ (by decide), e4, nI_1, zl_20, z_jmin (by decide) (by omega)]
    have q : ∀ (i : Nat), i ≠ 108 → ∀ (X : SM) (k : Nat) (v : Int32), (sI X 108 k v).1 i = X.1 i := fun i hi X k v => z_sIa _ _ _ _ hi
    refine z_some ⟨⟨fun i hi => ?_, ?_⟩, ?_, z_sIs _ _ _ _, ?_, fun j hj => ?_, ?_, fun j hj => ?_, fun b b1 b2 => ?_⟩
    · rw [q i hi.1, q i hi.1, F2.1 i hi.2.2.2]; exact g1 i hi.2.1 hi.2.2.1
    · show M2.2 = M.2
      rw [F2.2]; exact g6
    · rw [z_sIk _ _ _ _ (by decide), z_sIs]
    · rw [q 109 (by decide), q 109 (by decide), F2.1 109 (by omega)]; exact g2
    · rw [q 109 (by decide), q 109 (by decide), F2.1 109 (by omega)]; exact g3 j hj
    · rw [q 110 (by decide), q 110 (by decide), F2.1 110 (by omega)]; exact g4
    · rw [q 110 (by decide), q 110 (by decide), F2.1 110 (by omega)]; exact g5 j hj
    · rw [q _ (by omega), q _ (by omega)]; exact R2 b b1 b2
theorem c_setAct {b : Nat} {v : Int32} (ho : o = 7 ∨ o = 57) (hd : d < 8) (h1 : 1 ≤ b) (hb : b ≤ 60) : f_Pa_setAct (o + 39) (nI d) (nI b) v M = some (sI M (o + 41 + d) (b - 1) v) := by
  unfold f_Pa_setAct
  rw [jo_39_0 ho, z_ls h1, zqo_40 ho _ hd (by omega)]; rfl
theorem c_setSize {v : Int32} (ho : o = 7 ∨ o = 57) (hd : d < 8) : f_Pa_setSize (o + 39) (nI d) v M = some (sI M (o + 49) d v) := by
  unfold f_Pa_setSize
  rw [jo_39_1 ho, zpo_49 ho _ hd]; rfl
theorem c_setActs {f t v : Nat} (ho : o = 7 ∨ o = 57) (hn8 : n ≤ 8) (hP : z_WP n P) (hT : z_TC o n P M) (hd : d < n) (hf : 1 ≤ f) (hft : f ≤ t) (ht : t ≤ 60) (hv : v ≤ 3) :
    z_ok (f_Pa_setActs (o + 39) (nI d) (nI f) (nI t) (nI v) M) (fun r => r.1 = nI (z_ow P d v f (t + 1 - f)) ∧ z_TC o n (z_mk P d f t v) r.2 ∧ z_Fr (fun i => i ≠ o + 41 + d ∧ i ≠ o + 49) M r.2) := by
  have hp := (hP d hd).1
  unfold f_Pa_setActs
  refine z_bind (P := fun r => r = nI (z_ow P d v f (t + 1 - f))) ?_ (fun r hr => ?_)
  · show z_ok ((fun m c (s : Int32) => lp_Pa_setActs_6 (o + 39) (nI d) (nI t) (nI v) M m s c) jfuel (nI f) (nI 0)) _
    refine z_loop (σ := Int32) (τ := Int32) (fun m c (s : Int32) => lp_Pa_setActs_6 (o + 39) (nI d) (nI t) (nI v) M m s c) (fun c s => f ≤ c ∧ s = nI (z_ow P d v f (c - f))) _ (t + 1) ?_ ?_ jfuel f (nI 0) (by omega) (by rw [z_jf]; omega) ⟨Nat.le_refl _, by rw [Nat.sub_self]; rfl⟩
    · intro m c s hc hI k
      obtain ⟨i1, i2⟩ := hI
      show z_ok (lp_Pa_setActs_6 (o + 39) (nI d) (nI t) (nI v) M (m + 1) s (nI c)) _
      rw [lp_Pa_setActs_6]
      refine z_neg (nI_nlt (by omega) (by omega)) ?_
      refine z_eq (c_pact ho hn8 hP hT hd (by omega)) ?_
      have hpb := z_pa_b hP hd c
      have e1 : z_ow P d v f (c + 1 - f) = if z_pa P d c = v then z_ow P d v f (c - f) else z_ow P d v f (c - f) + 1 := by
        rw [show c + 1 - f = (c - f) + 1 by omega]
        show (if z_pa P d (f + (c - f)) = v then _ else _) = _
        rw [show f + (c - f) = c by omega]; rfl
      refine z_eq (r := nI (z_ow P d v f (c + 1 - f))) ?_ (by rw [nI_1]; exact k _ ⟨by omega, rfl⟩)
      rw [e1, i2]
      by_cases q : z_pa P d c = v
      · rw [if_pos q, if_pos (by rw [q])]
      · rw [if_neg q, if_neg (fun r => q ((nI_eq (by omega) (by omega)).mp r)), nI_1]
    · intro m s hI
      show z_ok (lp_Pa_setActs_6 (o + 39) (nI d) (nI t) (nI v) M (m + 1) s (nI (t + 1))) _
      rw [lp_Pa_setActs_6]
      exact z_pos (nI_lt (by omega) (by omega)) (z_some hI.2)
  · have sz : ∀ X : SM, X.1 (o + 49) d = nI (P.1 d) → f_Pa_size (o + 39) (nI d) X = some (nI (P.1 d)) := fun X hX => by
      unfold f_Pa_size
      rw [jo_39_1 ho, zao_49 ho _ (by omega), hX]; rfl
    refine z_eq (sz M (hT d hd).1) ?_
    rw [nI_1]
    refine z_bind (P := fun M1 => z_Fr (fun i => i ≠ o + 41 + d) M M1 ∧ (∀ j, j + 1 ≤ P.1 d ∨ f ≤ j + 1 → M1.1 (o + 41 + d) j = M.1 (o + 41 + d) j) ∧ (∀ j, P.1 d < j + 1 → j + 1 < f → M1.1 (o + 41 + d) j = nI 2)) ?_ (fun M1 h1 => ?_)
    · by_cases q : P.1 d + 1 ≤ f
      · refine z_loop (fun m c s => lp_Pa_setActs_42 (o + 39) (nI d) (nI f) m c s) (fun c M1 => P.1 d + 1 ≤ c ∧ z_Fr (fun i => i ≠ o + 41 + d) M M1 ∧ (∀ j, j + 1 ≤ P.1 d ∨ c ≤ j + 1 → M1.1 (o + 41 + d) j = M.1 (o + 41 + d) j) ∧ (∀ j, P.1 d < j + 1 → j + 1 < c → M1.1 (o + 41 + d) j = nI 2)) _ f ?_ ?_ jfuel (P.1 d + 1) M q (by rw [z_jf]; omega) ⟨Nat.le_refl _, z_Fr.rf, fun j _ => rfl, fun j a b => by omega⟩
        · intro m c M' hc hI k
          obtain ⟨i1, i2, i3, i4⟩ := hI
          show z_ok (lp_Pa_setActs_42 (o + 39) (nI d) (nI f) (m + 1) (nI c) M') _
          rw [lp_Pa_setActs_42]
          refine z_pos (nI_lt hc (by omega)) ?_
          refine z_eq (c_setAct ho (by omega) (by omega) (by omega)) ?_
          rw [nI_1]
          refine k _ ⟨by omega, i2.sI (by omega), fun j hj => ?_, fun j a b => ?_⟩
          · rw [z_sIk _ _ _ _ (by omega)]; exact i3 j (by omega)
          · by_cases e : j = c - 1
            · subst e; rw [z_sIs]; rfl
            · rw [z_sIk _ _ _ _ e]; exact i4 j a (by omega)
        · intro m M' hI
          show z_ok (lp_Pa_setActs_42 (o + 39) (nI d) (nI f) (m + 1) (nI f) M') _
          rw [lp_Pa_setActs_42]
          exact z_neg (nI_nlt (Nat.le_refl _) (by omega)) (z_some hI.2)
      · refine ⟨M, ?_, z_Fr.rf, fun j _ => rfl, fun j a b => by omega⟩
        rw [z_jf, lp_Pa_setActs_42]
        exact if_neg (nI_nlt (by omega) (by omega))
    · obtain ⟨F1, R1, R2⟩ := h1
      refine z_bind (P := fun M2 => z_Fr (fun i => i ≠ o + 41 + d) M M2 ∧ (∀ j, j + 1 < f ∨ t < j + 1 → M2.1 (o + 41 + d) j = M1.1 (o + 41 + d) j) ∧ (∀ j, f ≤ j + 1 → j + 1 ≤ t → M2.1 (o + 41 + d) j = nI v)) ?_ (fun M2 h2 => ?_)
      · refine z_loop (fun m c s => lp_Pa_setActs_65 (o + 39) (nI d) (nI t) (nI v) m c s) (fun c M2 => f ≤ c ∧ z_Fr (fun i => i ≠ o + 41 + d) M M2 ∧ (∀ j, j + 1 < f ∨ c ≤ j + 1 → M2.1 (o + 41 + d) j = M1.1 (o + 41 + d) j) ∧ (∀ j, f ≤ j + 1 → j + 1 < c → M2.1 (o + 41 + d) j = nI v)) _ (t + 1) ?_ ?_ jfuel f M1 (by omega) (by rw [z_jf]; omega) ⟨Nat.le_refl _, F1, fun j _ => rfl, fun j a b => by omega⟩
        · intro m c M' hc hI k
          obtain ⟨i1, i2, i3, i4⟩ := hI
          show z_ok (lp_Pa_setActs_65 (o + 39) (nI d) (nI t) (nI v) (m + 1) (nI c) M') _
          rw [lp_Pa_setActs_65]
          refine z_neg (nI_nlt (by omega) (by omega)) ?_
          refine z_eq (c_setAct ho (by omega) (by omega) (by omega)) ?_
          rw [nI_1]
          refine k _ ⟨by omega, i2.sI (by omega), fun j hj => ?_, fun j a b => ?_⟩
          · rw [z_sIk _ _ _ _ (by omega)]; exact i3 j (by omega)
          · by_cases e : j = c - 1
            · subst e; rw [z_sIs]
            · rw [z_sIk _ _ _ _ e]; exact i4 j a (by omega)
        · intro m M' hI
          show z_ok (lp_Pa_setActs_65 (o + 39) (nI d) (nI t) (nI v) (m + 1) (nI (t + 1)) M') _
          rw [lp_Pa_setActs_65]
          exact z_pos (nI_lt (by omega) (by omega)) (z_some ⟨hI.2.1, fun j hj => hI.2.2.1 j (by omega), fun j a b => hI.2.2.2 j a (by omega)⟩)
      · obtain ⟨F2, R3, R4⟩ := h2
        refine z_eq (sz M2 (by rw [F2.1 _ (by omega)]; exact (hT d hd).1)) ?_
        rw [z_jmax (by omega) (by omega)]
        refine z_eq (c_setSize ho (by omega)) (z_some ⟨hr, ?_, (F2.wk (fun i q => q.1)).sI (by omega)⟩)
        intro e he
        have hTe := hT e he
        by_cases q : e = d
        · subst q
          refine ⟨?_, fun b hb => ?_⟩
          · rw [z_sIs]
            show nI (max (P.1 e) t) = nI (if e = e then max (P.1 e) t else P.1 e)
            rw [if_pos rfl]
          · have hb : b < (if e = e then max (P.1 e) t else P.1 e) := hb
            rw [if_pos rfl] at hb
            rw [z_sIa _ _ _ _ (by omega)]
            show M2.1 (o + 41 + e) b = nI (if e = e then (if f ≤ b + 1 ∧ b + 1 ≤ t then v else if P.1 e < b + 1 then 2 else P.2 e (b + 1)) else P.2 e (b + 1))
            rw [if_pos rfl]
            by_cases c1 : f ≤ b + 1 ∧ b + 1 ≤ t
            · rw [if_pos c1]; exact R4 b c1.1 c1.2
            · rw [if_neg c1, R3 b (by omega)]
              by_cases c2 : P.1 e < b + 1
              · rw [if_pos c2]; exact R2 b c2 (by omega)
              · rw [if_neg c2, R1 b (by omega)]; exact hTe.2 b (by omega)
        · refine ⟨?_, fun b hb => ?_⟩
          · rw [z_sIk _ _ _ _ q, F2.1 _ (by omega), hTe.1]
            show _ = nI (if e = d then _ else P.1 e)
            rw [if_neg q]
          · have hb : b < (if e = d then max (P.1 d) t else P.1 e) := hb
            rw [if_neg q] at hb
            rw [z_sIa _ _ _ _ (by omega), F2.1 _ (by omega), hTe.2 b hb]
            show _ = nI (if e = d then _ else P.2 e (b + 1))
            rw [if_neg q]
theorem m_keeps {nw hn : Nat} (hn8 : n ≤ 8) (hP : z_WP n P) (hT : z_TR n P N) (hnw : nw < 20) (hhn : hn ≤ 20) (h3 : N.1 366 64 = nI nw) (h4 : N.1 366 63 = nI hn) :
    z_ok (f_Mo_keeps 366 N) (fun N' => z_Fr (fun i => i ≠ 366 ∧ i ≠ 404) N N' ∧ (∀ k, k ≠ 63 → k ≠ 64 → N'.1 366 k = N.1 366 k) ∧ N'.1 366 64 = nI ((nw + 1) % 20) ∧ N'.1 366 63 = nI (min 20 (hn + 1)) ∧ z_KR ((nw + 1) % 20) n P N' ∧ (∀ j, j < 488 * ((nw + 1) % 20) ∨ 488 * ((nw + 1) % 20) + 488 ≤ j → N'.1 404 j = N.1 404 j)) := by
  unfold f_Mo_keeps
  rw [h3, nI_1, zl_20, pk_rem (by omega) (by decide) (by decide)]
  generalize hN1 : sI N 366 64 (nI ((nw + 1) % 20)) = N1
  have hw : (nw + 1) % 20 < 20 := Nat.mod_lt _ (by decide)
  generalize (nw + 1) % 20 = w at hN1 hw
  have g1 : ∀ i, i ≠ 366 → N1.1 i = N.1 i := fun i q => by rw [← hN1, z_sIa _ _ _ _ q]
  have g2 : N1.1 366 64 = nI w := by rw [← hN1, z_sIs]
  have g3 : ∀ k, k ≠ 64 → N1.1 366 k = N.1 366 k := fun k q => by rw [← hN1, z_sIk _ _ _ _ q]
  have g4 : N1.2 = N.2 := by rw [← hN1]; rfl
  refine z_bind (P := fun N' => z_Fr (fun i => i ≠ 404) N1 N' ∧ (∀ j, j < 488 → N'.1 404 (488 * w + j) = N.1 391 (488 + j)) ∧ (∀ j, j < 488 * w ∨ 488 * w + 488 ≤ j → N'.1 404 j = N.1 404 j)) ?_ (fun N2 h2 => ?_)
  · refine z_loop (fun m c s => lp_Mo_keeps_15 366 m c s) (fun c N' => z_Fr (fun i => i ≠ 404) N1 N' ∧ (∀ j, j < c → N'.1 404 (488 * w + j) = N.1 391 (488 + j)) ∧ (∀ j, j < 488 * w ∨ 488 * w + 488 ≤ j → N'.1 404 j = N.1 404 j)) _ 488 ?_ ?_ jfuel 0 N1 (by decide) (by decide) ⟨z_Fr.rf, fun j q => by omega, fun j _ => by rw [g1 404 (by decide)]⟩
    · intro m c N' hc hI k
      obtain ⟨i1, i2, i3⟩ := hI
      show z_ok (lp_Mo_keeps_15 366 (m + 1) (nI c) N') _
      rw [lp_Mo_keeps_15, zl_488, jm_36, jm_62, nI_add, i1.1 366 (by decide), g2, pk_mul, nI_add, nI_1]
      refine z_pos (nI_lt hc (by decide)) ?_
      refine z_eq (zi_391 _ (by omega)) ?_
      refine z_eq (zs_404 _ (by omega)) ?_
      refine k _ ⟨i1.sI (by omega), fun j hj => ?_, fun j hj => ?_⟩
      · by_cases e : j = c
        · subst e; rw [z_sIs, i1.1 391 (by decide), g1 391 (by decide)]
        · rw [z_sIk _ _ _ _ (by omega)]; exact i2 j (by omega)
      · rw [z_sIk _ _ _ _ (by omega)]; exact i3 j hj
    · intro m N' hI
      show z_ok (lp_Mo_keeps_15 366 (m + 1) (nI 488) N') _
      rw [lp_Mo_keeps_15]
      exact z_neg (by decide) (z_some hI)
  · obtain ⟨F2, R2, R3⟩ := h2
    have e4 : N2.1 366 63 = nI hn := by rw [F2.1 366 (by decide), g3 63 (by decide)]; exact h4
    have kr : ∀ X : SM, X.1 404 = N2.1 404 → z_KR w n P X := fun X hX e he => by
      have hTe := hT e he
      have hpe := (hP e he).1
      rw [hX]
      refine ⟨?_, fun b b1 b2 => ?_⟩
      · rw [R2 _ (by omega)]; exact hTe.1
      · rw [show 488 * w + 61 * e + b = 488 * w + (61 * e + b) by omega, R2 _ (by omega), show 488 + (61 * e + b) = 488 + 61 * e + b by omega]; exact hTe.2 b b1 b2
    rw [e4]
    refine z_lt hn 20 rfl rfl (by omega) (by decide) (fun q => ?_) (fun q => ?_)
    · rw [nI_1]
      refine z_some ⟨⟨fun i hi => ?_, ?_⟩, fun k k1 k2 => ?_, ?_, ?_, kr _ (z_sIa _ _ _ _ (by decide)), fun j hj => ?_⟩
      · rw [z_sIa _ _ _ _ hi.1, F2.1 i hi.2]; exact g1 i hi.1
      · show N2.2 = N.2
        rw [F2.2]; exact g4
      · rw [z_sIk _ _ _ _ k1, F2.1 366 (by decide)]; exact g3 k k2
      · rw [z_sIk _ _ _ _ (by decide), F2.1 366 (by decide)]; exact g2
      · rw [z_sIs, show min 20 (hn + 1) = hn + 1 by omega]
      · rw [z_sIa _ _ _ _ (by decide)]; exact R3 j hj
    · refine z_some ⟨⟨fun i hi => ?_, ?_⟩, fun k k1 k2 => ?_, ?_, ?_, kr _ rfl, R3⟩
      · rw [F2.1 i hi.2]; exact g1 i hi.1
      · rw [F2.2]; exact g4
      · rw [F2.1 366 (by decide)]; exact g3 k k2
      · rw [F2.1 366 (by decide)]; exact g2
      · rw [e4, show min 20 (hn + 1) = hn by omega]
/-- the reference's own part of mark, behind keeps -/
theorem m_marks {f t v : Nat} {fl : Int32} (hn8 : n ≤ 8) (hP : z_WP n P) (hT : z_TR n P N) (hd : d < n) (hf : 1 ≤ f) (hft : f ≤ t) (ht : t ≤ 60) (hv : (fl = 0 ∧ v = 2) ∨ (fl ≠ 0 ∧ v = 0)) :
    z_ok ((f_Mo_barsOf 366 (nI d) N).bind fun q8 => (lp_Mo_mark_61 366 (nI t) (488 + (61 * nI d)) jfuel (q8 + 1) N).bind fun q11 => (aI q11 (jpf 366 36) (488 + (61 * nI d))).bind fun v12 => (if v12 < nI t then ((aS q11 (jpf 366 36) (488 + (61 * nI d)) (nI t)).bind fun M15 => some M15) else (some q11) : Option (SM)).bind fun q13 => lp_Mo_mark_106 366 (nI t) fl (488 + (61 * nI d)) jfuel 0 (nI f) q13) (fun r => r.1 = nI (z_ow P d v f (t + 1 - f)) ∧ z_TR n (z_mk P d f t v) r.2 ∧ z_Fr (fun i => i ≠ 391) N r.2) := by
  have hp := (hP d hd).1
  have hTd := hT d hd
  refine z_eq (m_bars hn8 hT hd) ?_
  rw [zl_488, zl_61, pk_mul, nI_add, nI_1, jm_36]
  have hx : 488 + 61 * d + 60 < 976 := by omega
  refine z_bind (P := fun N1 => z_Fr (fun i => i ≠ 391) N N1 ∧ (∀ j, j ≤ 488 + 61 * d + P.1 d ∨ 488 + 61 * d + t < j → N1.1 391 j = N.1 391 j) ∧ (∀ b, P.1 d < b → b ≤ t → N1.1 391 (488 + 61 * d + b) = nI 2)) ?_ (fun N1 h1 => ?_)
  · by_cases q : P.1 d + 1 ≤ t + 1
    · refine z_loop (fun m c s => lp_Mo_mark_61 366 (nI t) (nI (488 + 61 * d)) m c s) (fun c N1 => P.1 d + 1 ≤ c ∧ z_Fr (fun i => i ≠ 391) N N1 ∧ (∀ j, j ≤ 488 + 61 * d + P.1 d ∨ 488 + 61 * d + c ≤ j → N1.1 391 j = N.1 391 j) ∧ (∀ b, P.1 d < b → b < c → N1.1 391 (488 + 61 * d + b) = nI 2)) _ (t + 1) ?_ ?_ jfuel (P.1 d + 1) N q (by rw [z_jf]; omega) ⟨Nat.le_refl _, z_Fr.rf, fun j _ => rfl, fun b b1 b2 => by omega⟩
      · intro m c N' hc hI k
        obtain ⟨i1, i2, i3, i4⟩ := hI
        show z_ok (lp_Mo_mark_61 366 (nI t) (nI (488 + 61 * d)) (m + 1) (nI c) N') _
        rw [lp_Mo_mark_61, jm_36, nI_add, nI_1]
        refine z_neg (nI_nlt (by omega) (by omega)) ?_
        refine z_eq (zs_391 _ (by omega)) ?_
        refine k _ ⟨by omega, i2.sI (by omega), fun j hj => ?_, fun b b1 b2 => ?_⟩
        · rw [z_sIk _ _ _ _ (by omega)]; exact i3 j (by omega)
        · by_cases e : b = c
          · subst e; rw [z_sIs]; rfl
          · rw [z_sIk _ _ _ _ (by omega)]; exact i4 b b1 (by omega)
      · intro m N' hI
        show z_ok (lp_Mo_mark_61 366 (nI t) (nI (488 + 61 * d)) (m + 1) (nI (t + 1)) N') _
        rw [lp_Mo_mark_61]
        exact z_pos (nI_lt (by omega) (by omega)) (z_some ⟨hI.2.1, fun j hj => hI.2.2.1 j (by omega), fun b b1 b2 => hI.2.2.2 b b1 (by omega)⟩)
    · refine ⟨N, ?_, z_Fr.rf, fun j _ => rfl, fun b b1 b2 => by omega⟩
      rw [z_jf, lp_Mo_mark_61]
      exact if_pos (nI_lt (by omega) (by omega))
  · obtain ⟨F1, R1, R2⟩ := h1
    refine z_eq (zi_391 _ (by omega)) ?_
    rw [R1 _ (by omega), hTd.1]
    refine z_bind (P := fun N2 => z_Fr (fun i => i ≠ 391) N N2 ∧ N2.1 391 (488 + 61 * d) = nI (max (P.1 d) t) ∧ ∀ j, j ≠ 488 + 61 * d → N2.1 391 j = N1.1 391 j) ?_ (fun N2 h2 => ?_)
    · refine z_lt _ _ rfl rfl (by omega) (by omega) (fun q => ?_) (fun q => ?_)
      · refine z_eq (zs_391 _ (by omega)) (z_some ⟨F1.sI (by omega), by rw [z_sIs, show max (P.1 d) t = t by omega], fun j hj => z_sIk _ _ _ _ hj⟩)
      · refine z_some ⟨F1, by rw [R1 _ (by omega), hTd.1, show max (P.1 d) t = P.1 d by omega], fun j _ => rfl⟩
    · obtain ⟨F2, R3, R4⟩ := h2
      have row : ∀ b, 1 ≤ b → b ≤ t → N2.1 391 (488 + 61 * d + b) = nI (z_pa P d b) := fun b b1 b2 => by
        rw [R4 _ (by omega)]
        unfold z_pa
        by_cases q : b ≤ P.1 d
        · rw [R1 _ (by omega), if_pos ⟨b1, q⟩]; exact hTd.2 b b1 q
        · rw [R2 b (by omega) b2, if_neg (by omega)]
      show z_ok ((fun m c (s : Int32 × SM) => lp_Mo_mark_106 366 (nI t) fl (nI (488 + 61 * d)) m s.1 c s.2) jfuel (nI f) (nI 0, N2)) _
      refine z_loop (σ := Int32 × SM) (τ := Int32 × SM) (fun m c (s : Int32 × SM) => lp_Mo_mark_106 366 (nI t) fl (nI (488 + 61 * d)) m s.1 c s.2) (fun c r => f ≤ c ∧ r.1 = nI (z_ow P d v f (c - f)) ∧ z_Fr (fun i => i ≠ 391) N r.2 ∧ (∀ j, j < 488 + 61 * d + f ∨ 488 + 61 * d + c ≤ j → r.2.1 391 j = N2.1 391 j) ∧ (∀ b, f ≤ b → b < c → r.2.1 391 (488 + 61 * d + b) = nI v)) _ (t + 1) ?_ ?_ jfuel f (nI 0, N2) (by omega) (by rw [z_jf]; omega) ⟨Nat.le_refl _, by rw [Nat.sub_self]; rfl, F2, fun j _ => rfl, fun b b1 b2 => by omega⟩
      · intro m c r hc hI k
        obtain ⟨x, N'⟩ := r
        obtain ⟨i1, i2, i3, i4, i5⟩ := hI
        have i2 : x = nI (z_ow P d v f (c - f)) := i2
        have i3 : z_Fr (fun i => i ≠ 391) N N' := i3
        have i4 : ∀ j, j < 488 + 61 * d + f ∨ 488 + 61 * d + c ≤ j → N'.1 391 j = N2.1 391 j := i4
        show z_ok (lp_Mo_mark_106 366 (nI t) fl (nI (488 + 61 * d)) (m + 1) x (nI c) N') _
        rw [lp_Mo_mark_106, jm_36, nI_add, nI_1]
        refine z_neg (nI_nlt (by omega) (by omega)) ?_
        refine z_eq (r := nI v) (by rcases hv with ⟨h1, h2⟩ | ⟨h1, h2⟩; rw [if_pos h1, h2]; rfl; rw [if_neg h1, h2]; rfl) ?_
        refine z_eq (zi_391 _ (by omega)) ?_
        rw [i4 _ (by omega), row c (by omega) (by omega)]
        have hpb := z_pa_b hP hd c
        have hv3 : v ≤ 3 := by omega
        have e1 : z_ow P d v f (c + 1 - f) = if z_pa P d c = v then z_ow P d v f (c - f) else z_ow P d v f (c - f) + 1 := by
          rw [show c + 1 - f = (c - f) + 1 by omega]
          show (if z_pa P d (f + (c - f)) = v then _ else _) = _
          rw [show f + (c - f) = c by omega]; rfl
        refine z_eq (r := nI (z_ow P d v f (c + 1 - f))) ?_ ?_
        · rw [e1, i2]
          by_cases q : z_pa P d c = v
          · rw [if_pos q, if_pos (by rw [q])]
          · rw [if_neg q, if_neg (fun r => q ((nI_eq (by omega) (by omega)).mp r)), nI_1]
        · refine z_eq (zs_391 _ (by omega)) ?_
          refine k (_, _) ⟨by omega, rfl, i3.sI (by omega), fun j hj => ?_, fun b b1 b2 => ?_⟩
          · show (sI N' 391 (488 + 61 * d + c) (nI v)).1 391 j = _
            rw [z_sIk _ _ _ _ (by omega)]; exact i4 j (by omega)
          · show (sI N' 391 (488 + 61 * d + c) (nI v)).1 391 (488 + 61 * d + b) = _
            by_cases e : b = c
            · subst e; rw [z_sIs]
            · rw [z_sIk _ _ _ _ (by omega)]; exact i5 b b1 (by omega)
      · intro m r hI
        obtain ⟨x, N'⟩ := r
        obtain ⟨i1, i2, i3, i4, i5⟩ := hI
        have i4 : ∀ j, j < 488 + 61 * d + f ∨ 488 + 61 * d + (t + 1) ≤ j → N'.1 391 j = N2.1 391 j := i4
        have i5 : ∀ b, f ≤ b → b < t + 1 → N'.1 391 (488 + 61 * d + b) = nI v := i5
        have i3 : z_Fr (fun i => i ≠ 391) N N' := i3
        show z_ok (lp_Mo_mark_106 366 (nI t) fl (nI (488 + 61 * d)) (m + 1) x (nI (t + 1)) N') _
        rw [lp_Mo_mark_106]
        refine z_pos (nI_lt (by omega) (by omega)) (z_some ⟨i2, ?_, i3⟩)
        show z_TR n (z_mk P d f t v) N'
        intro e he
        have hTe := hT e he
        have hpe := (hP e he).1
        by_cases q : e = d
        · subst q
          refine ⟨?_, fun b b1 b2 => ?_⟩
          · rw [i4 _ (by omega), R3]
            show _ = nI (if e = e then max (P.1 e) t else P.1 e)
            rw [if_pos rfl]
          · have b2 : b ≤ (if e = e then max (P.1 e) t else P.1 e) := b2
            rw [if_pos rfl] at b2
            show _ = nI (if e = e then (if f ≤ b ∧ b ≤ t then v else if P.1 e < b then 2 else P.2 e b) else P.2 e b)
            rw [if_pos rfl]
            by_cases c1 : f ≤ b ∧ b ≤ t
            · rw [if_pos c1]; exact i5 b c1.1 (by omega)
            · rw [if_neg c1, i4 _ (by omega), R4 _ (by omega)]
              by_cases c2 : P.1 e < b
              · rw [if_pos c2]; exact R2 b c2 (by omega)
              · rw [if_neg c2, R1 _ (by omega)]; exact hTe.2 b b1 (by omega)
        · have hne : 488 + 61 * e + 60 < 488 + 61 * d ∨ 488 + 61 * d + 60 < 488 + 61 * e := by omega
          refine ⟨?_, fun b b1 b2 => ?_⟩
          · rw [i4 _ (by omega), R4 _ (by omega), R1 _ (by omega), hTe.1]
            show _ = nI (if e = d then _ else P.1 e)
            rw [if_neg q]
          · have b2 : b ≤ (if e = d then max (P.1 d) t else P.1 e) := b2
            rw [if_neg q] at b2
            rw [i4 _ (by omega), R4 _ (by omega), R1 _ (by omega), hTe.2 b b1 b2]
            show _ = nI (if e = d then _ else P.2 e b)
            rw [if_neg q]
end
