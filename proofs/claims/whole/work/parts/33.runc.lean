/-! ===== pure: the class's parts, its run ===== -/
/-- PARTS: how many BARS, what they tell (from 1 on) -/
abbrev ZP : Type := (Nat → Nat) × (Nat → Nat → Nat)
def z_pa (P : ZP) (d b : Nat) : Nat := if 1 ≤ b ∧ b ≤ P.1 d then P.2 d b else 2
def z_WP (n : Nat) (P : ZP) : Prop := ∀ d, d < n → P.1 d ≤ 60 ∧ ∀ b, 1 ≤ b → b ≤ P.1 d → P.2 d b ≤ 3
def z_TC (o n : Nat) (P : ZP) (M : SM) : Prop := ∀ d, d < n → M.1 (o + 49) d = nI (P.1 d) ∧ ∀ b, b < P.1 d → M.1 (o + 41 + d) b = nI (P.2 d (b + 1))
def z_TR (n : Nat) (P : ZP) (M : SM) : Prop := ∀ d, d < n → M.1 391 (488 + 61 * d) = nI (P.1 d) ∧ ∀ b, 1 ≤ b → b ≤ P.1 d → M.1 391 (488 + 61 * d + b) = nI (P.2 d b)
theorem z_TC.fr {o n : Nat} {P : ZP} {M M' : SM} (hn : n ≤ 8) (h : z_TC o n P M) (k : ∀ i, o + 41 ≤ i → i < o + 50 → M'.1 i = M.1 i) : z_TC o n P M' := fun d hd => by
  rw [k (o + 49) (by omega) (by omega), k (o + 41 + d) (by omega) (by omega)]
  exact h d hd
theorem z_TR.fr {n : Nat} {P : ZP} {M M' : SM} (h : z_TR n P M) (k : M'.1 391 = M.1 391) : z_TR n P M' := fun d hd => by
  rw [k]
  exact h d hd
theorem z_pa_b {n : Nat} {P : ZP} (h : z_WP n P) {d : Nat} (hd : d < n) (b : Nat) : z_pa P d b ≤ 3 := by
  unfold z_pa
  split
  · next q => exact (h d hd).2 b q.1 q.2
  · decide
theorem c_pact {o n d b : Nat} {P : ZP} {M : SM} (ho : o = 7 ∨ o = 57) (hn : n ≤ 8) (hP : z_WP n P) (h : z_TC o n P M) (hd : d < n) (hb : b < 2 ^ 30) : f_Pa_act (o + 39) (nI d) (nI b) M = some (nI (z_pa P d b)) := by
  have h1 := (hP d hd).1
  unfold f_Pa_act z_pa
  by_cases q : b < 1
  · rw [if_pos (by rw [zl_1]; exact nI_lt q (by decide)), if_neg (by omega)]; rfl
  · rw [if_neg (by rw [zl_1]; exact nI_nlt (by omega) (by omega)), jo_39_1 ho, zao_49 ho M (by omega), (h d hd).1]
    show (if nI (P.1 d) < nI b then some 2 else _) = _
    by_cases r : P.1 d < b
    · rw [if_pos (nI_lt r (by omega)), if_neg (by omega)]; rfl
    · rw [if_neg (nI_nlt (by omega) (by omega)), if_pos ⟨by omega, by omega⟩, jo_39_0 ho, z_ls (by omega), zco_40 ho M (by omega) (by omega), (h d hd).2 (b - 1) (by omega), show b - 1 + 1 = b by omega]; rfl
/-- what is supposed: bits of DESKS that rest; a DESK that leaves a BAR out; a BAR behind which all begins anew -/
def z_su (P : ZP) (s h l e : Nat) (d b : Nat) : Nat := if s.testBit d then 2 else z_pa P d (if d = h ∧ l ≤ b - e then b - e + 1 else b - e)
theorem z_bit : ∀ s, s < 256 → ∀ d, d < 8 → (((nI s) >>> (nI d &&& 31)) &&& 1 = 1 ↔ s.testBit d = true) := by decide +kernel
theorem c_act {o n s h l e d b : Nat} {P : ZP} {M : SM} (ho : o = 7 ∨ o = 57) (hn : n ≤ 8) (hP : z_WP n P) (hT : z_TC o n P M) (hs : s < 256) (h7 : M.1 319 7 = nI s) (h8 : M.1 319 8 = nI h ∨ (M.1 319 8 = -1 ∧ 8 ≤ h)) (hh : h < 100) (hl : l < 1000) (h9 : M.1 319 9 = nI l) (h10 : M.1 319 10 = nI e) (hd : d < n) (he : e ≤ b) (hb : b < 1000) : f_Po_act 319 o (nI d) (nI b) M = some (nI (z_su P s h l e d b)) := by
  unfold f_Po_act z_su
  rw [h7, h9, h10]
  by_cases q : s.testBit d = true
  · rw [if_pos ((z_bit s hs d (by omega)).mpr q), if_pos q]; rfl
  · rw [if_neg (fun r => q ((z_bit s hs d (by omega)).mp r)), if_neg q, jo_13 ho, z_sub he]
    have e1 : (nI d = M.1 319 8) ↔ d = h := by
      rcases h8 with h8 | ⟨h8, h8'⟩
      · rw [h8]; exact nI_eq (by omega) (by omega)
      · rw [h8]; exact ⟨fun r => absurd r (z_neg1 (by omega)), fun r => by omega⟩
    by_cases r : d = h
    · rw [if_pos (e1.mpr r)]
      by_cases t : l ≤ b - e
      · rw [if_neg (nI_nlt t (by omega)), if_pos ⟨r, t⟩, nI_1]
        show (f_Pa_act _ _ _ _).bind _ = _
        rw [c_pact ho hn hP hT hd (by omega)]; rfl
      · rw [if_pos (nI_lt (by omega) (by omega)), if_neg (fun v => t v.2)]
        show (f_Pa_act _ _ _ _).bind _ = _
        rw [c_pact ho hn hP hT hd (by omega)]; rfl
    · rw [if_neg (fun v => r (e1.mp v)), if_neg (fun v => r v.1)]
      show (f_Pa_act _ _ _ _).bind _ = _
      rw [c_pact ho hn hP hT hd (by omega)]; rfl
theorem z_su_b {n s h l e d b : Nat} {P : ZP} (hP : z_WP n P) (hd : d < n) : z_su P s h l e d b ≤ 3 := by
  unfold z_su
  split
  · decide
  · exact z_pa_b hP hd _
theorem z_su_0 {P : ZP} {h l : Nat} (hh : 8 ≤ h) {d : Nat} (hd : d < 8) (b : Nat) : z_su P 0 h l 0 d b = z_pa P d b := by
  unfold z_su
  rw [if_neg (by rw [Nat.zero_testBit]; decide), if_neg (by omega)]; rfl
/-- the run's rows up to a BAR -/
def z_RC (A : ZA) (f : Nat → ZS) (n : Nat) (M : SM) : Prop := ∀ b, b ≤ n → (∀ c, c < A 0 0 → M.1 (134 + b) c = nI ((f b).1 c)) ∧ (∀ i, i < A 0 5 → M.1 (196 + b) i = nI ((f b).2.1 i)) ∧ (∀ k, k < 4 → M.1 (258 + b) k = nI ((f b).2.2 k)) ∧ M.1 (258 + b) 4 = nI (z_sum (A 0 0) (f b).1) ∧ M.1 (258 + b) 5 = nI ((f b).2.2 4)
theorem z_RC.fr {A : ZA} {f : Nat → ZS} {n : Nat} {M M' : SM} (hn : n ≤ 60) (h : z_RC A f n M) (k : ∀ i, 134 ≤ i → i < 319 → M'.1 i = M.1 i) : z_RC A f n M' := fun b hb => by
  rw [k (134 + b) (by omega) (by omega), k (196 + b) (by omega) (by omega), k (258 + b) (by omega) (by omega)]
  exact h b hb
def z_RK (b : Nat) (M M' : SM) : Prop := z_Fr (fun i => i ≠ 134 + b ∧ i ≠ 196 + b ∧ i ≠ 258 + b) M M'
section
variable {A : ZA} {o : Nat} {M : SM} {w bt pf : Nat → Nat} {al : Nat → Nat → Nat} {b : Nat}
theorem c_keep {S : ZS} {t : Nat} (ho : o = 7 ∨ o = 57) (hW : z_W A) (hO : z_OC o A M) (hP : z_P3 A S.1 S.2.1 pf M) (ht : pf 4 ≤ 1) (hb : b ≤ 60) (h5 : (b = 0 ∧ t = 0) ∨ (0 < b ∧ M.1 (258 + (b - 1)) 5 = nI t)) :
    z_ok (f_Ru_keep 132 o 319 (nI b) M) (fun M' => z_RK b M M' ∧ (∀ c, c < A 0 0 → M'.1 (134 + b) c = nI (S.1 c)) ∧ (∀ i, i < A 0 5 → M'.1 (196 + b) i = nI (S.2.1 i)) ∧ (∀ k, k < 4 → M'.1 (258 + b) k = nI (pf k)) ∧ M'.1 (258 + b) 4 = nI (z_sum (A 0 0) S.1) ∧ M'.1 (258 + b) 5 = nI (t + pf 4)) := by
  obtain ⟨hc0, w2, w3, w4, w5, w6, w7, w8, w9, w10, w11, w12⟩ := id hW
  unfold f_Ru_keep
  refine z_bind (P := fun s => s.1 = nI (z_sum (A 0 0) S.1) ∧ z_Fr (fun i => i ≠ 134 + b) M s.2 ∧ (∀ c, c < A 0 0 → s.2.1 (134 + b) c = nI (S.1 c))) ?_ ?_
  · show z_ok ((fun n c (s : Int32 × SM) => lp_Ru_keep_6 132 o 319 (nI b) n s.1 c s.2) jfuel (nI 0) (nI 0, M)) _
    refine z_loop (σ := Int32 × SM) (τ := Int32 × SM) (fun n c (s : Int32 × SM) => lp_Ru_keep_6 132 o 319 (nI b) n s.1 c s.2) (fun c (s : Int32 × SM) => s.1 = nI (z_sum c S.1) ∧ z_Fr (fun i => i ≠ 134 + b) M s.2 ∧ (∀ j, j < c → s.2.1 (134 + b) j = nI (S.1 j))) _ (A 0 0) ?_ ?_ jfuel 0 (nI 0, M) (Nat.zero_le _) (by rw [z_jf]; omega) ⟨(by show nI 0 = nI 0; rfl), z_Fr.rf, fun j h => by omega⟩
    · intro n c s hc hI k
      obtain ⟨x, M'⟩ := s
      obtain ⟨hx, hF, hr⟩ := hI
      have hx : x = nI (z_sum c S.1) := hx
      have hF : z_Fr (fun i => i ≠ 134 + b) M M' := hF
      show z_ok (lp_Ru_keep_6 132 o 319 (nI b) (n + 1) x (nI c) M') _
      rw [lp_Ru_keep_6, jp_319_0, jp_132_0, hF.1 o (by omega), hO.1]
      refine z_pos (nI_lt hc (by omega)) ?_
      refine z_eq (za_320 _ (by omega)) ?_
      rw [hF.1 320 (by omega), hP.1 c hc]
      refine z_eq (zq_133 _ (by omega) (by omega)) ?_
      rw [hx, nI_add, nI_1]
      refine k (_, _) ⟨rfl, hF.sI (by omega), fun j hj => ?_⟩
      by_cases e : j = c
      · subst e; exact z_sIs _ _ _ _
      · show (sI M' (134 + b) c (nI (S.1 c))).1 (134 + b) j = _
        rw [z_sIk _ _ _ _ e]; exact hr j (by omega)
    · intro n s hI
      obtain ⟨x, M'⟩ := s
      have hF : z_Fr (fun i => i ≠ 134 + b) M M' := hI.2.1
      show z_ok (lp_Ru_keep_6 132 o 319 (nI b) (n + 1) x (nI (A 0 0)) M') _
      rw [lp_Ru_keep_6, hF.1 o (by omega), hO.1]
      exact z_neg (nI_nlt (Nat.le_refl _) (by omega)) (z_some hI)
  · intro s hs
    obtain ⟨x, M1⟩ := s
    obtain ⟨hx, hF1, hr1⟩ := hs
    have hx : x = nI (z_sum (A 0 0) S.1) := hx
    have hF1 : z_Fr (fun i => i ≠ 134 + b) M M1 := hF1
    show z_ok ((lp_Ru_keep_54 132 o 319 (nI b) jfuel 0 M1).bind _) _
    refine z_bind (P := fun s => z_Fr (fun i => i ≠ 196 + b) M1 s ∧ (∀ c, c < A 0 5 → s.1 (196 + b) c = nI (S.2.1 c))) ?_ ?_
    · refine z_loop (fun n c s => lp_Ru_keep_54 132 o 319 (nI b) n c s) (fun c s => z_Fr (fun i => i ≠ 196 + b) M1 s ∧ (∀ j, j < c → s.1 (196 + b) j = nI (S.2.1 j))) _ (A 0 5) ?_ ?_ jfuel 0 M1 (Nat.zero_le _) (by rw [z_jf]; omega) ⟨z_Fr.rf, fun j h => by omega⟩
      · intro n c M' hc hI k
        obtain ⟨hF, hr⟩ := hI
        show z_ok (lp_Ru_keep_54 132 o 319 (nI b) (n + 1) (nI c) M') _
        rw [lp_Ru_keep_54, jo_11 ho, jp_132_1, hF.1 (o + 33) (by omega), hF1.1 (o + 33) (by omega), hO.2.2.2.2.2.1]
        refine z_pos (nI_lt hc (by omega)) ?_
        refine z_eq (r := nI (S.2.1 c)) (by unfold f_Po_boatCell; rw [jp_319_1, za_321 _ (by omega), hF.1 321 (by omega), hF1.1 321 (by omega), hP.2.1 c hc]; rfl) ?_
        refine z_eq (zq_195 _ (by omega) (by omega)) ?_
        rw [nI_1]
        refine k _ ⟨hF.sI (by omega), fun j hj => ?_⟩
        by_cases e : j = c
        · subst e; exact z_sIs _ _ _ _
        · rw [z_sIk _ _ _ _ e]; exact hr j (by omega)
      · intro n M' hI
        show z_ok (lp_Ru_keep_54 132 o 319 (nI b) (n + 1) (nI (A 0 5)) M') _
        rw [lp_Ru_keep_54, jo_11 ho, hI.1.1 (o + 33) (by omega), hF1.1 (o + 33) (by omega), hO.2.2.2.2.2.1]
        exact z_neg (nI_nlt (Nat.le_refl _) (by omega)) (z_some hI)
    · intro M2 hs
      obtain ⟨hF2, hr2⟩ := hs
      have hF : z_RK b M M2 := (hF1.wk (fun i h => h.1)).tr (hF2.wk (fun i h => h.2.1))
      have p0 : ∀ k, k < 5 → M2.1 319 (2 + k) = nI (pf k) := fun k hk => by rw [hF.1 319 (by omega)]; exact hP.2.2 k hk
      rw [jp_132_2]
      show z_ok ((f_Sp_putCell 257 (nI b) (nI 0) (M2.1 319 2) M2).bind _) _
      refine z_eq (zq_257 _ (by omega) (by omega)) ?_
      have q : ∀ (X : SM) (k : Nat) (v : Int32) (j : Nat), (sI X (258 + b) k v).1 319 j = X.1 319 j := fun X k v j => by rw [z_sIa _ _ _ _ (by omega)]
      show z_ok ((f_Sp_putCell 257 (nI b) (nI 1) _ _).bind _) _
      refine z_eq (zq_257 _ (by omega) (by omega)) ?_
      show z_ok ((f_Sp_putCell 257 (nI b) (nI 2) _ _).bind _) _
      refine z_eq (zq_257 _ (by omega) (by omega)) ?_
      show z_ok ((f_Sp_putCell 257 (nI b) (nI 3) _ _).bind _) _
      refine z_eq (zq_257 _ (by omega) (by omega)) ?_
      show z_ok ((f_Sp_putCell 257 (nI b) (nI 4) _ _).bind _) _
      refine z_eq (zq_257 _ (by omega) (by omega)) ?_
      simp only [q]
      have g0 := p0 0 (by decide); have g1 := p0 1 (by decide); have g2 := p0 2 (by decide); have g3 := p0 3 (by decide); have g4 := p0 4 (by decide)
      simp only [Nat.add_zero, Nat.reduceAdd] at g0 g1 g2 g3 g4
      rw [g0, g1, g2, g3, g4, hx]
      generalize hM3 : sI (sI (sI (sI (sI M2 (258 + b) 0 (nI (pf 0))) (258 + b) 1 (nI (pf 1))) (258 + b) 2 (nI (pf 2))) (258 + b) 3 (nI (pf 3))) (258 + b) 4 (nI (z_sum (A 0 0) S.1)) = M3
      have r3 : ∀ i, i ≠ 258 + b → M3.1 i = M2.1 i := fun i hi => by rw [← hM3, z_sIa _ _ _ _ hi, z_sIa _ _ _ _ hi, z_sIa _ _ _ _ hi, z_sIa _ _ _ _ hi, z_sIa _ _ _ _ hi]
      have f3 : z_RK b M M3 := ⟨fun i hi => by rw [r3 i hi.2.2]; exact hF.1 i hi, by rw [← hM3]; exact hF.2⟩
      refine z_eq (r := nI t) ?_ ?_
      · unfold f_Ru_measure
        rw [jp_132_2]
        rcases h5 with ⟨rfl, rfl⟩ | ⟨h0, h5⟩
        · rw [z_cofN (by decide)]; rfl
        · rw [z_ls h0, zl_5, zc_257 _ (by omega) (by omega), f3.1 _ (by omega), h5]; rfl
      refine z_eq (r := nI (pf 4)) (by
        by_cases e : pf 4 = 0
        · rw [e]; rfl
        · rw [show pf 4 = 1 by omega]; rfl) ?_
      rw [nI_add]
      show z_ok ((f_Sp_putCell 257 (nI b) (nI 5) _ _).bind _) _
      refine z_eq (zq_257 _ (by omega) (by omega)) (z_some ⟨f3.sI (by omega), fun c hc => ?_, fun i hi => ?_, fun k hk => ?_, ?_, ?_⟩)
      · rw [z_sIa _ _ _ _ (by omega), r3 _ (by omega), hF2.1 _ (by omega)]; exact hr1 c hc
      · rw [z_sIa _ _ _ _ (by omega), r3 _ (by omega)]; exact hr2 i hi
      · rw [z_sIk _ _ _ _ (by omega), ← hM3]
        match k, hk with
        | 0, _ => rw [z_sIk _ _ _ _ (by decide), z_sIk _ _ _ _ (by decide), z_sIk _ _ _ _ (by decide), z_sIk _ _ _ _ (by decide), z_sIs]
        | 1, _ => rw [z_sIk _ _ _ _ (by decide), z_sIk _ _ _ _ (by decide), z_sIk _ _ _ _ (by decide), z_sIs]
        | 2, _ => rw [z_sIk _ _ _ _ (by decide), z_sIk _ _ _ _ (by decide), z_sIs]
        | 3, _ => rw [z_sIk _ _ _ _ (by decide), z_sIs]
        | k + 4, h => omega
      · rw [z_sIk _ _ _ _ (by decide), ← hM3, z_sIs]
      · rw [z_sIs]
theorem c_suppose : f_Po_suppose 319 M = some (sI (sI (sI (sI M 319 7 0) 319 8 (-1)) 319 9 0) 319 10 0) := rfl
theorem c_told (ho : o = 7 ∨ o = 57) (hW : z_W A) (hO : z_OC o A M) :
    z_ok (f_Po_beginTold 319 o M) (fun M' => z_P3 A (A 2) (A 7) (fun _ => 0) M' ∧ z_Fr (fun i => i < 319 ∨ 321 < i) M M' ∧ M'.1 319 7 = nI 0 ∧ M'.1 319 8 = -1 ∧ M'.1 319 9 = nI 0 ∧ M'.1 319 10 = nI 0) := by
  obtain ⟨hc0, w2, w3, w4, w5, w6, w7, w8, w9, w10, w11, w12⟩ := id hW
  unfold f_Po_beginTold
  refine z_eq c_suppose ?_
  generalize hM0 : sI (sI (sI (sI M 319 7 0) 319 8 (-1)) 319 9 0) 319 10 0 = M0
  have F0 : z_Fr (fun i => i < 319 ∨ 321 < i) M M0 := by rw [← hM0]; exact (((z_Fr.rf.sI (by omega)).sI (by omega)).sI (by omega)).sI (by omega)
  have G0 : M0.1 319 7 = nI 0 ∧ M0.1 319 8 = -1 ∧ M0.1 319 9 = nI 0 ∧ M0.1 319 10 = nI 0 := by rw [← hM0]; exact ⟨rfl, rfl, rfl, rfl⟩
  refine z_bind (P := fun s => z_Fr (fun i => i ≠ 320) M0 s ∧ (∀ c, c < A 0 0 → s.1 320 c = nI (A 2 c))) ?_ (fun M1 h1 => ?_)
  · refine z_loop (fun n c s => lp_Po_beginTold_6 319 o n c s) (fun c s => z_Fr (fun i => i ≠ 320) M0 s ∧ (∀ j, j < c → s.1 320 j = nI (A 2 j))) _ (A 0 0) ?_ ?_ jfuel 0 M0 (Nat.zero_le _) (by rw [z_jf]; omega) ⟨z_Fr.rf, fun j h => by omega⟩
    · intro n c M' hc hI k
      obtain ⟨hF, hr⟩ := hI
      show z_ok (lp_Po_beginTold_6 319 o (n + 1) (nI c) M') _
      have hF' : ∀ i, i < 319 → M'.1 i = M.1 i := fun i hi => by rw [hF.1 i (by omega)]; exact F0.1 i (Or.inl hi)
      rw [lp_Po_beginTold_6, jo_6 ho, jp_319_0, hF' o (by omega), hO.1]
      refine z_pos (nI_lt hc (by omega)) ?_
      refine z_eq (zao_2 ho _ (by omega)) ?_
      rw [hF' (o + 2) (by omega), (hO.2.2.2.2.2.2.2.1 c hc).2.1]
      refine z_eq (zp_320 _ (by omega)) ?_
      rw [nI_1]
      refine k _ ⟨hF.sI (by omega), fun j hj => ?_⟩
      by_cases e : j = c
      · subst e; exact z_sIs _ _ _ _
      · rw [z_sIk _ _ _ _ e]; exact hr j (by omega)
    · intro n M' hI
      show z_ok (lp_Po_beginTold_6 319 o (n + 1) (nI (A 0 0)) M') _
      rw [lp_Po_beginTold_6, hI.1.1 o (by omega), F0.1 o (by omega), hO.1]
      exact z_neg (nI_nlt (Nat.le_refl _) (by omega)) (z_some hI)
  · refine z_bind (P := fun s => z_Fr (fun i => i ≠ 321) M1 s ∧ (∀ c, c < A 0 5 → s.1 321 c = nI (A 7 c))) ?_ (fun M2 h2 => ?_)
    · refine z_loop (fun n c s => lp_Po_beginTold_38 319 o n c s) (fun c s => z_Fr (fun i => i ≠ 321) M1 s ∧ (∀ j, j < c → s.1 321 j = nI (A 7 j))) _ (A 0 5) ?_ ?_ jfuel 0 M1 (Nat.zero_le _) (by rw [z_jf]; omega) ⟨z_Fr.rf, fun j h => by omega⟩
      · intro n c M' hc hI k
        obtain ⟨hF, hr⟩ := hI
        show z_ok (lp_Po_beginTold_38 319 o (n + 1) (nI c) M') _
        have hF' : ∀ i, i < 319 → M'.1 i = M.1 i := fun i hi => by rw [hF.1 i (by omega), h1.1.1 i (by omega)]; exact F0.1 i (Or.inl hi)
        rw [lp_Po_beginTold_38, jo_11 ho, jp_319_1, hF' (o + 33) (by omega), hO.2.2.2.2.2.1]
        refine z_pos (nI_lt hc (by omega)) ?_
        refine z_eq (r := nI (A 7 c)) (by unfold f_St_cellOfOne; rw [jo_33_0 ho, zao_34 ho _ (by omega), hF' (o + 34) (by omega), (hO.2.2.2.2.2.2.2.2.2.2.1 c hc).1]; rfl) ?_
        refine z_eq (zp_321 _ (by omega)) ?_
        rw [nI_1]
        refine k _ ⟨hF.sI (by omega), fun j hj => ?_⟩
        by_cases e : j = c
        · subst e; exact z_sIs _ _ _ _
        · rw [z_sIk _ _ _ _ e]; exact hr j (by omega)
      · intro n M' hI
        show z_ok (lp_Po_beginTold_38 319 o (n + 1) (nI (A 0 5)) M') _
        rw [lp_Po_beginTold_38, jo_11 ho, hI.1.1 (o + 33) (by omega), h1.1.1 (o + 33) (by omega), F0.1 (o + 33) (by omega), hO.2.2.2.2.2.1]
        exact z_neg (nI_nlt (Nat.le_refl _) (by omega)) (z_some hI)
    · refine z_some ?_
      have e : ∀ k, M2.1 319 k = M0.1 319 k := fun k => by rw [h2.1.1 319 (by decide), h1.1.1 319 (by decide)]
      refine ⟨⟨fun c hc => ?_, fun i hi => ?_, fun k hk => ?_⟩, ⟨fun i hi => ?_, ?_⟩, (e 7).trans G0.1, (e 8).trans G0.2.1, (e 9).trans G0.2.2.1, (e 10).trans G0.2.2.2⟩
      · show M2.1 320 c = _
        rw [h2.1.1 320 (by decide)]; exact h1.2 c hc
      · exact h2.2 i hi
      · match k, hk with
        | 0, _ => rfl
        | 1, _ => rfl
        | 2, _ => rfl
        | 3, _ => rfl
        | 4, _ => rfl
        | k + 5, h => omega
      · have h319 : i ≠ 319 := by omega
        rw [z_sIa _ _ _ _ h319, z_sIa _ _ _ _ h319, z_sIa _ _ _ _ h319, z_sIa _ _ _ _ h319, z_sIa _ _ _ _ h319, h2.1.1 i (by omega), h1.1.1 i (by omega)]
        exact F0.1 i hi
      · show M2.2 = M.2
        rw [h2.1.2, h1.1.2]; exact F0.2
theorem c_playAll {P : ZP} (ho : o = 7 ∨ o = 57) (hW : z_W A) (hR : z_R A) (hO : z_OC o A M) (hP : z_WP (A 0 3) P) (hT : z_TC o (A 0 3) P M) :
    z_ok (f_Ru_playAll 132 o 319 M) (fun M' => z_RC A (r_v A (z_pa P)) 60 M' ∧ z_Fr (fun i => i < 134 ∨ 321 < i) M M') := by
  have hd8 := hW.2.1
  unfold f_Ru_playAll
  refine z_bind (c_told ho hW hO) (fun M1 h1 => ?_)
  obtain ⟨P1, F1, G7, G8, G9, G10⟩ := h1
  have O1 : z_OC o A M1 := hO.fr (fun i a1 a2 => F1.1 i (by omega))
  refine z_bind (c_keep (S := (A 2, A 7, fun _ => 0)) (b := 0) (t := 0) ho hW O1 P1 (by decide) (by decide) (Or.inl ⟨rfl, rfl⟩)) (fun M2 h2 => ?_)
  have K2 : z_Fr (fun i => i < 134 ∨ 318 < i) M1 M2 := h2.1.wk (fun i hi => by omega)
  refine z_bind (P := fun M' => z_RC A (r_v A (z_pa P)) 60 M' ∧ z_Fr (fun i => i < 134 ∨ 321 < i) M M') ?_ (fun M' h => z_some h)
  refine z_loop (fun n c s => lp_Ru_playAll_14 132 o 319 n c s) (fun c s => ∃ pf : Nat → Nat, z_P3 A (r_v A (z_pa P) (c - 1)).1 (r_v A (z_pa P) (c - 1)).2.1 pf s ∧ (∀ k, k < 4 → pf k = (r_v A (z_pa P) (c - 1)).2.2 k) ∧ 1 ≤ c ∧ z_RC A (r_v A (z_pa P)) (c - 1) s ∧ z_Fr (fun i => i < 134 ∨ 321 < i) M s ∧ s.1 319 7 = nI 0 ∧ s.1 319 8 = -1 ∧ s.1 319 9 = nI 0 ∧ s.1 319 10 = nI 0) _ 61 ?_ ?_ jfuel 1 M2 (by decide) (by decide) ⟨fun _ => 0, ?_, fun _ _ => rfl, by decide, ?_, ?_, ?_⟩
  · intro n c M' hc hI k
    obtain ⟨pf, p1, p2, p3, p4, p5, p6, p7, p8, p9⟩ := hI
    have O' : z_OC o A M' := hO.fr (fun i a1 a2 => p5.1 i (by omega))
    have T' : z_TC o (A 0 3) P M' := hT.fr hd8 (fun i a1 a2 => p5.1 i (by omega))
    show z_ok (lp_Ru_playAll_14 132 o 319 (n + 1) (nI c) M') _
    rw [lp_Ru_playAll_14, zl_60]
    refine z_neg (nI_nlt (by omega) (by omega)) ?_
    refine z_bind (c_play (S := r_v A (z_pa P) (c - 1)) (al := z_pa P) ho hW hR O' (r_v_G hW _) p1 (fun d hd => z_pa_b hP hd _) (fun M'' hK d hd => ?_)) (fun M3 h3 => ?_)
    · rw [c_act (s := 0) (h := 99) (l := 0) (e := 0) ho hd8 hP (T'.fr hd8 (fun i a1 a2 => hK.1.1 i (by omega))) (by decide) ((hK.2 7 (by decide)).trans p6) (Or.inr ⟨(hK.2 8 (by decide)).trans p7, by decide⟩) (by decide) (by decide) ((hK.2 9 (by decide)).trans p8) ((hK.2 10 (by decide)).trans p9) hd (Nat.zero_le _) (by omega), z_su_0 (by decide) (by omega)]
    · have hr : r_v A (z_pa P) c = r_bar A (z_pa P) c (r_v A (z_pa P) (c - 1)) := by
        obtain ⟨c', rfl⟩ : ∃ c', c = c' + 1 := ⟨c - 1, by omega⟩
        rfl
      obtain ⟨P3, K3⟩ := h3
      have O3 := O'.pk ho K3
      have ht : (r_on A (z_pa P) c (r_v A (z_pa P) (c - 1)).1 4) ≤ 1 := (r_in_b (A := A) (al := z_pa P) (b := c) hW.2.2.2.2.2.2.2.2.1 (Nat.le_refl _)).2
      refine z_bind (c_keep (pf := fun k => if k = 4 then r_on A (z_pa P) c (r_v A (z_pa P) (c - 1)).1 4 else pf k + r_on A (z_pa P) c (r_v A (z_pa P) (c - 1)).1 k) (S := r_v A (z_pa P) c) (b := c) (t := (r_v A (z_pa P) (c - 1)).2.2 4) ho hW O3 (by rw [hr]; exact P3) ht (by omega) (Or.inr ⟨p3, by rw [K3.1.1 _ (by omega)]; exact (p4 (c - 1) (Nat.le_refl _)).2.2.2.2⟩)) (fun M4 h4 => ?_)
      obtain ⟨F4, q1, q2, q3, q4, q5⟩ := h4
      rw [nI_1]
      refine k M4 ⟨(fun k => if k = 4 then r_on A (z_pa P) c (r_v A (z_pa P) (c - 1)).1 4 else pf k + r_on A (z_pa P) c (r_v A (z_pa P) (c - 1)).1 k), ?_, fun k hk => ?_, by omega, fun b hb => ?_, (p5.tr (K3.1.wk (fun i h => by omega))).tr (F4.wk (fun i h => by omega)), ?_, ?_, ?_, ?_⟩
      · rw [show c + 1 - 1 = c from rfl, hr]
        refine ⟨fun i hi => ?_, fun i hi => ?_, fun i hi => ?_⟩
        · rw [F4.1 320 (by omega)]; exact P3.1 i hi
        · rw [F4.1 321 (by omega)]; exact P3.2.1 i hi
        · rw [F4.1 319 (by omega)]; exact P3.2.2 i hi
      · show (if k = 4 then _ else _) = (r_v A (z_pa P) c).2.2 k
        rw [hr, if_neg (by omega), p2 k hk]; rfl
      · rw [show c + 1 - 1 = c from rfl] at hb
        by_cases e : b = c
        · subst e
          refine ⟨q1, q2, fun k hk => ?_, q4, ?_⟩
          · rw [q3 k hk, if_neg (by omega), p2 k hk, hr]; rfl
          · rw [q5, hr]; rfl
        · rw [F4.1 (134 + b) (by omega), F4.1 (196 + b) (by omega), F4.1 (258 + b) (by omega), K3.1.1 (134 + b) (by omega), K3.1.1 (196 + b) (by omega), K3.1.1 (258 + b) (by omega)]
          exact p4 b (by omega)
      · rw [F4.1 319 (by omega)]; exact (K3.2 7 (by decide)).trans p6
      · rw [F4.1 319 (by omega)]; exact (K3.2 8 (by decide)).trans p7
      · rw [F4.1 319 (by omega)]; exact (K3.2 9 (by decide)).trans p8
      · rw [F4.1 319 (by omega)]; exact (K3.2 10 (by decide)).trans p9
  · intro n M' hI
    obtain ⟨pf, p1, p2, p3, p4, p5, p6⟩ := hI
    show z_ok (lp_Ru_playAll_14 132 o 319 (n + 1) (nI 61) M') _
    rw [lp_Ru_playAll_14]
    exact z_pos (by decide) (z_some ⟨p4, p5⟩)
  · refine ⟨fun i hi => ?_, fun i hi => ?_, fun i hi => ?_⟩
    · rw [K2.1 320 (by omega)]; exact P1.1 i hi
    · rw [K2.1 321 (by omega)]; exact P1.2.1 i hi
    · rw [K2.1 319 (by omega)]; exact P1.2.2 i hi
  · intro b hb
    have e : b = 0 := by omega
    subst e
    exact ⟨h2.2.1, h2.2.2.1, h2.2.2.2.1, h2.2.2.2.2.1, h2.2.2.2.2.2⟩
  · exact (F1.wk (fun i h => by omega)).tr (K2.wk (fun i h => by omega))
  · rw [K2.1 319 (by omega)]; exact ⟨G7, G8, G9, G10⟩
end
