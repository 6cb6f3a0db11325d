/-! ===== pure: QUESTION's rows, the class ===== -/
def y_G (u : Nat) (M M' : SM) : Prop := z_Fr (fun i => i ≠ 322 ∧ (i < 324 + u ∨ 363 < i)) M M' ∧ ∀ k, k ≠ 3 → M'.1 322 k = M.1 322 k
def y_F (u : Nat) (M M' : SM) : Prop := z_Fr (fun i => i ≠ 3 ∧ i ≠ 4 ∧ i ≠ 322 ∧ (i < 324 + u ∨ 363 < i)) M M' ∧ ∀ k, k ≠ 3 → M'.1 322 k = M.1 322 k
def y_R (u : Nat) (v : Nat → Int32) (M : SM) : Prop := ∀ i, i < 61 → M.1 (324 + u) i = v i
def y_C (o : Nat) (A : ZA) (nm : Nat → Nat → Nat) (P : ZP) (M : SM) : Prop := z_CB o A nm P M ∧ jop (M.1 322 4) = o
section
variable {T : Nat → Nat} {n b o u : Nat} {A : ZA} {nm : Nat → Nat → Nat} {P : ZP} {M M' M'' : SM}
theorem y_F.rf : y_F u M M := ⟨z_Fr.rf, fun _ _ => rfl⟩
theorem y_F.tr (h : y_F u M M') (k : y_F u M' M'') : y_F u M M'' := ⟨h.1.tr k.1, fun j q => (k.2 j q).trans (h.2 j q)⟩
theorem y_F.dn {w : Nat} (h : y_F w M M') (k : u ≤ w) : y_F u M M' := ⟨h.1.wk (fun i q => ⟨q.1, q.2.1, q.2.2.1, by omega⟩), h.2⟩
theorem y_G.f (h : y_G u M M') : y_F u M M' := ⟨h.1.wk (fun i q => ⟨q.2.2.1, q.2.2.2⟩), h.2⟩
theorem z_RE.yf (h : z_RE M M') : y_F u M M' := ⟨h.wk (fun i q => ⟨q.1, q.2.1⟩), fun k _ => by rw [h.1 322 (by omega)]⟩
theorem y_C.f (hW : z_WB A nm P) (h : y_C o A nm P M) (k : y_F u M M') : y_C o A nm P M' := by
  have ho := h.1.1
  exact ⟨h.1.kp hW (by rw [k.1.1 0 (by omega)]) (fun i a b => k.1.1 i (by omega)) (fun i a b => k.1.1 i (by omega)), by rw [k.2 4 (by decide)]; exact h.2⟩
theorem z_tc.yf (h : z_tc n T M) (k : y_F u M M') : z_tc n T M' := h.fr (k.1.1 1 (by omega)) (k.1.1 2 (by omega))
theorem y_R.f {w : Nat} {v : Nat → Int32} (h : y_R w v M) (k : y_F u M M') (hw : w < u) : y_R w v M' := fun i hi => by
  rw [k.1.1 (324 + w) (by omega)]; exact h i hi
theorem z_RD.yg (h : z_RD T n b M) (k : y_G u M M') : z_RD T n b M' := h.fr (k.1.1 3 (by omega)) (k.1.1 4 (by omega))
theorem y_G.sf (k : y_G u M M') : z_SF M M' := ⟨by rw [k.1.1 3 (by omega)], by rw [k.1.1 3 (by omega)]⟩
theorem z_jfl (j : Nat) (h : j < 61) : ¬ (60 : Int32) < nI j := by rw [zl_60]; exact nI_nlt (by omega) (by omega)
/-- a row, cell by cell -/
theorem y_row {L : Nat → Int32 → SM → Option SM} {v : Nat → Int32}
    (hs : ∀ m j M', j < 61 → z_Fr (fun i => i ≠ 324 + u) M M' → (∀ i, j ≤ i → M'.1 (324 + u) i = M.1 (324 + u) i) → L (m + 1) (nI j) M' = L m (nI (j + 1)) (sI M' (324 + u) j (v j)))
    (he : ∀ m M', L (m + 1) (nI 61) M' = some M') : z_ok (L jfuel 0 M) (fun M' => z_Fr (fun i => i ≠ 324 + u) M M' ∧ ∀ i, i < 61 → M'.1 (324 + u) i = v i) := by
  rw [zl_0]
  refine z_loop L (fun j M' => z_Fr (fun i => i ≠ 324 + u) M M' ∧ (∀ i, j ≤ i → M'.1 (324 + u) i = M.1 (324 + u) i) ∧ ∀ i, i < j → M'.1 (324 + u) i = v i) _ 61 ?_ ?_ jfuel 0 M (Nat.zero_le _) (by rw [z_jf]; omega) ⟨z_Fr.rf, fun _ _ => rfl, fun i hi => by omega⟩
  · intro m j M' hj hI k
    rw [hs m j M' hj hI.1 hI.2.1]
    refine k _ ⟨hI.1.sI (by omega), fun i hi => ?_, fun i hi => ?_⟩
    · rw [z_sIk _ _ _ _ (by omega)]; exact hI.2.1 i (by omega)
    · by_cases e : i = j
      · subst e; exact z_sIs _ _ _ _
      · rw [z_sIk _ _ _ _ e]; exact hI.2.2 i (by omega)
  · intro m M' hI
    rw [he]
    exact z_some ⟨hI.1, hI.2.2⟩
theorem y_row.g {v : Nat → Int32} {w : Int32} (hu : u < 40) (h : z_Fr (fun i => i ≠ 324 + u) M M' ∧ ∀ i, i < 61 → M'.1 (324 + u) i = v i) : y_G u M (sI M' 322 3 w) ∧ y_R u v (sI M' 322 3 w) := by
  refine ⟨⟨(h.1.wk (fun i q => by omega)).sI (by omega), fun k hk => ?_⟩, fun i hi => ?_⟩
  · rw [z_sIk _ _ _ _ hk, h.1.1 322 (by omega)]
  · rw [z_sIa _ _ _ _ (by omega)]; exact h.2 i hi
theorem y_row.g0 {v : Nat → Int32} (hu : u < 40) (h : z_Fr (fun i => i ≠ 324 + u) M M' ∧ ∀ i, i < 61 → M'.1 (324 + u) i = v i) : y_G u M M' ∧ y_R u v M' := by
  refine ⟨⟨h.1.wk (fun i q => by omega), fun k hk => ?_⟩, h.2⟩
  rw [h.1.1 322 (by omega)]
def y_NR (u : Nat) (v : Nat → Int32) (M M' : SM) : Prop := M'.1 322 3 = nI (u + 1) ∧ y_R u v M' ∧ y_G u M M'
theorem c_addN {x : Int32} (hU : M.1 322 3 = nI u) (hu : u < 40) : z_ok (f_Qu_addNumber 322 x M) (y_NR u (fun _ => x) M) := by
  unfold f_Qu_addNumber
  refine z_bind (y_row (u := u) (v := fun _ => x) (fun m j M' hj h1 h2 => ?_) (fun m M' => ?_)) (fun M' h => ?_)
  · have e := h1.1 322 (by omega)
    rw [lp_Qu_addNumber_2, if_neg (z_jfl j hj), jp_322_2, e, hU, zq_323 _ hu hj, nI_1]; rfl
  · rw [lp_Qu_addNumber_2]; exact if_pos (by decide)
  · have g := y_row.g (w := M'.1 322 3 + 1) hu h
    refine z_some ⟨?_, g.2, g.1⟩
    rw [z_sIs, h.1.1 322 (by omega), hU, nI_1]
theorem c_addM {w : Nat} (hW : z_WB A nm P) (h0 : 0 < A 0 0) (hC : y_C o A nm P M) (hw : w < 6) (hU : M.1 322 3 = nI u) (hu : u < 40) : z_ok (f_Qu_addMeasure 322 (nI w) M) (y_NR u (y_part (r_v A (z_pa P)) w) M) := by
  unfold f_Qu_addMeasure
  have hR := hC.1.2.2.2.2.1 h0
  refine z_bind (y_row (u := u) (v := y_part (r_v A (z_pa P)) w) (fun m j M' hj h1 h2 => ?_) (fun m M' => ?_)) (fun M' h => ?_)
  · have e := h1.1 322 (by omega)
    have eR : ∀ j, j < 61 → M'.1 (258 + j) = M.1 (258 + j) := fun j hj => h1.1 _ (by omega)
    have ms : ∀ k i, k < 6 → i < 61 → f_Ru_measure 132 (nI i) (nI k) M' = some (M.1 (258 + i) k) := fun k i hk hi => by
      unfold f_Ru_measure
      rw [jp_132_2, zc_257 _ hi hk, eR i hi]; rfl
    have val : (if nI w = 5 then ((f_Ru_measure (jpf 322 1) (nI j) 5 M').bind fun q4 => (f_Ru_measure (jpf 322 1) ((nI j) - 1) 5 M').bind fun q5 => some (q4 - q5)) else (if nI w = 0 then (some (nI j)) else ((f_Ru_measure (jpf 322 1) (nI j) ((nI w) - 1) M').bind fun q7 => some q7)) : Option (Int32)) = some (y_part (r_v A (z_pa P)) w j) := by
      rw [jp_322_1]
      unfold y_part
      by_cases w5 : w = 5
      · subst w5
        rw [if_pos (show nI 5 = 5 from rfl), if_neg (show ¬ 5 = 0 by decide), if_pos (show 5 = 5 from rfl), show (5 : Int32) = nI 5 from rfl, ms 5 j (by decide) hj, (hR j (by omega)).2.2.2.2]
        by_cases j0 : j = 0
        · subst j0
          rw [if_pos rfl]
          show (some (nI 0)).bind _ = _
          simp only [Option.bind_some]
          unfold f_Ru_measure
          rw [z_cofN (by decide)]; rfl
        · rw [if_neg j0, z_ls (by omega), ms 5 (j - 1) (by decide) (by omega), (hR (j - 1) (by omega)).2.2.2.2]
          simp only [Option.bind_some]
          rw [z_sub]
          obtain ⟨i, rfl⟩ : ∃ i, j = i + 1 := ⟨j - 1, by omega⟩
          exact Nat.le_add_right _ _
      · rw [if_neg (fun (e : nI w = 5) => w5 ((nI_eq (b := 5) (by omega) (by decide)).mp e)), if_neg w5]
        by_cases w0 : w = 0
        · subst w0; rfl
        · rw [if_neg (fun (e : nI w = 0) => w0 ((nI_eq (b := 0) (by omega) (by decide)).mp e)), if_neg w0, z_ls (by omega), ms (w - 1) j (by omega) hj, (hR j (by omega)).2.2.1 (w - 1) (by omega)]
          rfl
    rw [lp_Qu_addMeasure_2, if_neg (z_jfl j hj), val]
    simp only [Option.bind_some]
    rw [jp_322_2, e, hU, zq_323 _ hu hj, nI_1]; rfl
  · rw [lp_Qu_addMeasure_2]; exact if_pos (by decide)
  · have g := y_row.g (w := M'.1 322 3 + 1) hu h
    refine z_some ⟨?_, g.2, g.1⟩
    rw [z_sIs, h.1.1 322 (by omega), hU, nI_1]
theorem c_join {c : Nat} {x y : Nat → Int32} (hU : M.1 322 3 = nI (u + 2)) (hu : u + 1 < 40) (h1 : y_R u x M) (h2 : y_R (u + 1) y M) (hc : ∀ i, i < 61 → (c = 10 ∨ c = 11) ∧ y_01 (x i) ∧ y_01 (y i) ∨ (1 ≤ c ∧ c ≤ 9) ∧ y_bn (x i) ∧ y_bn (y i)) : z_ok (f_Qu_join 322 (y_sg c) M) (y_NR u (fun i => y_j c (x i) (y i)) M) := by
  unfold f_Qu_join
  rw [hU, z_ls (by omega), show u + 2 - 1 = u + 1 from rfl]
  refine z_bind (y_row (u := u) (v := fun i => y_j c (x i) (y i)) (fun m j M' hj h3 h4 => ?_) (fun m M' => ?_)) (fun M' h => ?_)
  · have e : M'.1 322 3 = nI (u + 1) := by rw [h3.1 322 (by omega), z_sIs]
    rw [lp_Qu_join_12, if_neg (z_jfl j hj), jp_322_2, e, z_ls (by omega), show u + 1 - 1 = u from rfl, zc_323 _ (by omega) hj, zc_323 _ hu hj, h4 j (Nat.le_refl _), h3.1 (324 + (u + 1)) (by omega), z_sIa _ _ _ _ (by omega), z_sIa _ _ _ _ (by omega), h1 j hj, h2 j hj]
    simp only [Option.bind_some]
    rw [(y_j_s (hc j hj)).1]
    simp only [Option.bind_some]
    rw [zq_323 _ (by omega) hj, nI_1]; rfl
  · rw [lp_Qu_join_12]; exact if_pos (by decide)
  · have g := y_row.g0 (by omega) h
    refine z_some ⟨?_, g.2, ⟨(z_Fr.rf.sI (by omega)).tr g.1.1, fun k hk => ?_⟩⟩
    · rw [h.1.1 322 (by omega), z_sIs]
    · rw [g.1.2 k hk, z_sIk _ _ _ _ hk]
theorem c_neg {gf : (Nat → Int32 → SM → Option (Int32 × SM)) × (Nat → Int32 → SM → Option (Int32 × SM)) × (Nat → Int32 → SM → Option (Int32 × SM)) × (Nat → Int32 → SM → Option (Int32 × SM))} {x : Nat → Int32} (hU : M.1 322 3 = nI (u + 1)) (hu : u < 40) (h1 : y_R u x M) : z_ok (lp_Qu_negation_19 gf 322 jfuel 0 M) (y_NR u (fun i => if x i = 0 then 1 else 0) M) := by
  refine z_mono (y_row (u := u) (v := fun i => if x i = 0 then 1 else 0) (fun m j M' hj h3 h4 => ?_) (fun m M' => ?_)) (fun M' h => ?_)
  · have e : M'.1 322 3 = nI (u + 1) := by rw [h3.1 322 (by omega)]; exact hU
    rw [lp_Qu_negation_19, if_neg (z_jfl j hj), jp_322_2, e, z_ls (by omega), show u + 1 - 1 = u from rfl, zc_323 _ hu hj, h4 j (Nat.le_refl _), h1 j hj]
    simp only [Option.bind_some]
    have : (if x j = 0 then (some 1) else (some 0) : Option Int32) = some (if x j = 0 then 1 else 0) := by split <;> rfl
    rw [this]
    simp only [Option.bind_some]
    rw [zq_323 _ hu hj, nI_1]; rfl
  · rw [lp_Qu_negation_19]; exact if_pos (by decide)
  · have g := y_row.g0 hu h
    exact ⟨by rw [h.1.1 322 (by omega)]; exact hU, g.2, g.1⟩
theorem c_look {gf : (Nat → Int32 → SM → Option (Int32 × SM)) × (Nat → Int32 → SM → Option (Int32 × SM)) × (Nat → Int32 → SM → Option (Int32 × SM)) × (Nat → Int32 → Int32 → SM → Option (Int32 × SM)) × (Nat → Int32 → Int32 → SM → Option (Int32 × SM))} {x : Nat → Int32} {w : Nat} (hW : z_WB A nm P) (hC : y_C o A nm P M) (hw : w < 2) (hU : M.1 322 3 = nI (u + 1)) (hu : u < 40) (h1 : y_R u x M) : z_ok (lp_Qu_lookUp_31 gf 322 (nI (6 + w)) jfuel 0 M) (y_NR u (fun i => y_look A (r_v A (z_pa P)) w (x i) i) M) := by
  have ho := hC.1.1
  have hA1 := hW.1.1
  have hA2 := hW.1.2.2.2.1
  refine z_mono (y_row (u := u) (v := fun i => y_look A (r_v A (z_pa P)) w (x i) i) (fun m j M' hj h3 h4 => ?_) (fun m M' => ?_)) (fun M' h => ?_)
  · have e3 : M'.1 322 = M.1 322 := h3.1 322 (by omega)
    have hC' : z_CB o A nm P M' := hC.1.kp hW (by rw [h3.1 0 (by omega)]) (fun i a b => h3.1 i (by omega)) (fun i a b => h3.1 i (by omega))
    rw [lp_Qu_lookUp_31, if_neg (z_jfl j hj), jp_322_2, e3, hU, z_ls (by omega), show u + 1 - 1 = u from rfl, zc_323 _ hu hj, h4 j (Nat.le_refl _), h1 j hj]
    simp only [Option.bind_some]
    have val : (if nI (6 + w) = 6 then ((f_Qu_waterOf 322 (x j) (nI j) M').bind fun q10 => some q10) else ((f_Qu_boatOf 322 (x j) (nI j) M').bind fun q11 => some q11) : Option (Int32)) = some (y_look A (r_v A (z_pa P)) w (x j) j) := by
      unfold y_look
      by_cases w0 : w = 0
      · subst w0
        rw [if_pos (show nI (6 + 0) = 6 from rfl)]
        simp only [if_true]
        unfold f_Qu_waterOf
        rw [e3, hC.2, jp_322_1, hC'.2.2.1.1]
        by_cases q : z_q (x j) (A 0 0)
        · rw [if_pos q, if_neg q.1, if_pos q.2]
          obtain ⟨c, hc, e⟩ := z_q_of (by omega) q
          rw [e, c_water hW hC' hc hj, z_ci (by omega)]; rfl
        · rw [if_neg q]
          by_cases q1 : x j < 0
          · rw [if_pos q1]; rfl
          · rw [if_neg q1, if_neg (fun e => q ⟨q1, e⟩)]; rfl
      · rw [if_neg (fun (e : nI (6 + w) = 6) => w0 (by have := (nI_eq (b := 6) (by omega) (by decide)).mp e; omega)), if_neg w0]
        unfold f_Qu_boatOf
        rw [e3, hC.2, jp_322_1, jo_11 ho, c_holds (n := A 0 5) hC'.2.2.1.2.2.2.2.2.1]
        simp only [Option.bind_some]
        by_cases q : z_q (x j) (A 0 5)
        · rw [z_b1 q, if_pos q]
          obtain ⟨c, hc, e⟩ := z_q_of (by omega) q
          rw [e, c_boatC hW hC' hc hj, z_ci (by omega)]; rfl
        · rw [z_b0 q, if_neg q]; rfl
    rw [val]
    simp only [Option.bind_some]
    rw [zq_323 _ hu hj, nI_1]; rfl
  · rw [lp_Qu_lookUp_31]; exact if_pos (by decide)
  · have g := y_row.g0 hu h
    exact ⟨by rw [h.1.1 322 (by omega)]; exact hU, g.2, g.1⟩
theorem c_mayOpen {k : Nat} (hD : z_RD T n b M) : f_Qu_mayOpen 322 (nI k) M = (if nI k < 6 then some (1, M) else some (0, sI (sI M 3 5 (nI 4)) 3 6 (nI (z_sk T n b)))) := by
  unfold f_Qu_mayOpen f_Re_fail
  rw [jp_322_0, hD.2.1]; rfl
theorem c_isNum (hD : z_RD T n b M) : f_Re_isSomeNumber 3 M = some (if z_so T n b = 2 then 1 else 0) := by
  have := z_so_4 (T := T) (n := n) (b := b)
  unfold f_Re_isSomeNumber
  rw [hD.1]
  by_cases q : z_so T n b = 2
  · rw [if_pos q, q]; rfl
  · rw [if_neg q, if_neg (fun (e : nI (z_so T n b) = 2) => q ((nI_eq (b := 2) (by omega) (by decide)).mp e))]
/-- which of two signs, and of three -/
theorem c_signs {a p q : Nat} (hw : z_wt n T) (h : z_tc n T M) (hb : b ≤ n) (hD : z_RD T n b M) (hL : jsln a = nI 2) (h0 : jsch a (nI 0) = some (nI p)) (h1 : jsch a (nI 1) = some (nI q)) (hp : p < 256) (hq : q < 256) : f_Qu_signAmong 322 a M = some (if z_sg T n b p then nI p else if z_sg T n b q then nI q else 32) := by
  unfold f_Qu_signAmong
  have cc : ∀ x, x < 256 → cchk (nI x) = some (nI x) := by decide +kernel
  rw [z_jf, zl_0, lp_Qu_signAmong_2, hL, if_pos (by decide), h0]
  simp only [Option.bind_some]
  rw [jp_322_0, c_isSign hw h hb hD hp]
  simp only [Option.bind_some]
  by_cases c : z_sg T n b p
  · rw [z_b1 c, cc p hp, if_pos c]; rfl
  · rw [z_b0 c, if_neg c, nI_1, lp_Qu_signAmong_2, hL, if_pos (by decide), h1]
    simp only [Option.bind_some]
    rw [jp_322_0, c_isSign hw h hb hD hq]
    simp only [Option.bind_some]
    by_cases d : z_sg T n b q
    · rw [z_b1 d, cc q hq, if_pos d]; rfl
    · rw [z_b0 d, if_neg d, nI_1, lp_Qu_signAmong_2, hL, if_neg (by decide)]; rfl
theorem c_signs3 {a p q r : Nat} (hw : z_wt n T) (h : z_tc n T M) (hb : b ≤ n) (hD : z_RD T n b M) (hL : jsln a = nI 3) (h0 : jsch a (nI 0) = some (nI p)) (h1 : jsch a (nI 1) = some (nI q)) (h2 : jsch a (nI 2) = some (nI r)) (hp : p < 256) (hq : q < 256) (hr : r < 256) : f_Qu_signAmong 322 a M = some (if z_sg T n b p then nI p else if z_sg T n b q then nI q else if z_sg T n b r then nI r else 32) := by
  unfold f_Qu_signAmong
  have cc : ∀ x, x < 256 → cchk (nI x) = some (nI x) := by decide +kernel
  rw [z_jf, zl_0, lp_Qu_signAmong_2, hL, if_pos (by decide), h0]
  simp only [Option.bind_some]
  rw [jp_322_0, c_isSign hw h hb hD hp]
  simp only [Option.bind_some]
  by_cases c : z_sg T n b p
  · rw [z_b1 c, cc p hp, if_pos c]; rfl
  · rw [z_b0 c, if_neg c, nI_1, lp_Qu_signAmong_2, hL, if_pos (by decide), h1]
    simp only [Option.bind_some]
    rw [jp_322_0, c_isSign hw h hb hD hq]
    simp only [Option.bind_some]
    by_cases d : z_sg T n b q
    · rw [z_b1 d, cc q hq, if_pos d]; rfl
    · rw [z_b0 d, if_neg d, nI_1, lp_Qu_signAmong_2, hL, if_pos (by decide), h2]
      simp only [Option.bind_some]
      rw [jp_322_0, c_isSign hw h hb hD hr]
      simp only [Option.bind_some]
      by_cases d2 : z_sg T n b r
      · rw [z_b1 d2, cc r hr, if_pos d2]; rfl
      · rw [z_b0 d2, if_neg d2, nI_1, lp_Qu_signAmong_2, hL, if_neg (by decide)]; rfl
end
