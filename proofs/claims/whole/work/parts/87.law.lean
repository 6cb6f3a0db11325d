/-! ===== pure: the law's loop ===== -/
theorem y_ifb {α β : Type} {c : Prop} [Decidable c] {a b : α} {F : α → Option β} : ((if c then some a else some b : Option α).bind F) = F (if c then a else b) := by split <;> rfl
theorem l_get {α β : Type} {d : ∀ a b : α, Decidable (a = b)} {o1 o2 : Option α} {X Y : Option β} {Q : β → Prop} (h : ∃ v, o1 = some v ∧ o2 = some v) (k : z_ok X Q) : z_ok (o1.bind fun q => o2.bind fun q' => @ite _ (q = q') (d q q') X Y) Q := by
  obtain ⟨v, rfl, rfl⟩ := h
  simp only [Option.bind_some]
  rw [if_pos trivial]; exact k
theorem l_do {α β : Type} {d : ∀ a b : α, Decidable (a = b)} {fc fr : SM → Option (α × SM)} {S : SM} {X Y : SM → Option β} {Q : β → Prop} (st : y_st1 fc fr) (h : y_LP S S) (k : ∀ S', y_LP S' S' → z_ok (X S') Q) : z_ok ((fc S).bind fun q => (fr q.2).bind fun q' => @ite _ (q.1 = q'.1) (d q.1 q'.1) (X q'.2) (Y q'.2)) Q := by
  obtain ⟨v, S1, S2, e1, e2, h2⟩ := y_two st h
  rw [e1]
  simp only [Option.bind_some]
  rw [e2]
  simp only [Option.bind_some]
  rw [if_pos trivial]; exact k S2 h2
section
variable {scr : Nat → Int32} {L c : Nat} {S : SM}
theorem l_js {k : Nat} (hk : 6 * c + k < L) (hL : L ≤ 3072) : jscr scr L (nI (6 * c + k)) = some (scr (6 * c + k)) := by
  unfold jscr
  rw [if_neg, z_ci (by omega)]
  rw [z_ci (by omega)]
  intro e
  rcases e with e | e
  · exact z_n0 (n := 6 * c + k) (by omega) e
  · omega
theorem l_step {Q : SM ⊕ (Int32 × SM) → Prop} {m : Nat} (hc : 6 * c + 6 ≤ L) (hL : L ≤ 3072) (h : y_LP S S) (k : ∀ S', y_LP S' S' → z_ok (lp_Law_18 scr L 2099 0 366 m (nI (6 * (c + 1))) S') Q) : z_ok (lp_Law_18 scr L 2099 0 366 (m + 1) (nI (6 * c)) S) Q := by
  have h' := h
  obtain ⟨o, R, A, nm, P, G, hn, n, T, wt, wv, sm, im, hK, hT, hR⟩ := h'
  have j0 : jscr scr L (nI (6 * c)) = some (scr (6 * c)) := l_js (k := 0) (by omega) hL
  have j1 : jscr scr L (nI (6 * c) + 1) = some (scr (6 * c + 1)) := by rw [nI_1]; exact l_js (by omega) hL
  have j2 : jscr scr L (nI (6 * c) + 2) = some (scr (6 * c + 2)) := by rw [zl_2, z_add]; exact l_js (by omega) hL
  have j3 : jscr scr L (nI (6 * c) + 3) = some (scr (6 * c + 3)) := by rw [zl_3, z_add]; exact l_js (by omega) hL
  have j4 : jscr scr L (nI (6 * c) + 4) = some (scr (6 * c + 4)) := by rw [zl_4, z_add]; exact l_js (by omega) hL
  have j5 : jscr scr L (nI (6 * c) + 5) = some (scr (6 * c + 5)) := by rw [zl_5, z_add]; exact l_js (by omega) hL
  have e6 : nI (6 * c) + 6 = nI (6 * (c + 1)) := by rw [zl_6, z_add]; congr 1
  have go : ¬ nI L - 6 < nI (6 * c) := by
    rw [zl_6, z_sub (by omega)]; exact nI_nlt (by omega) (by omega)
  rw [lp_Law_18, if_neg go]
  simp only [j0, j1, j2, j3, j4, j5, e6, Option.bind_some, y_ifb]
  have k0 := k S h
  by_cases w0 : scr (6 * c) &&& 31 = 0
  · rw [if_pos w0]
    exact l_do (X := fun S' => lp_Law_18 scr L 2099 0 366 m (nI (6 * (c + 1))) S') (Y := fun S' => some (.inr (0, S'))) (l_feed _ _ _ _ _) h k
  rw [if_neg w0]
  by_cases w1 : scr (6 * c) &&& 31 = 1
  · rw [if_pos w1]
    exact l_do (X := fun S' => lp_Law_18 scr L 2099 0 366 m (nI (6 * (c + 1))) S') (Y := fun S' => some (.inr (0, S'))) (l_end _) h k
  rw [if_neg w1]
  by_cases w2 : scr (6 * c) &&& 31 = 2
  · rw [if_pos w2]
    exact l_do (X := fun S' => lp_Law_18 scr L 2099 0 366 m (nI (6 * (c + 1))) S') (Y := fun S' => some (.inr (0, S'))) l_opera h k
  rw [if_neg w2]
  by_cases w3 : scr (6 * c) &&& 31 = 3
  · rw [if_pos w3]
    exact l_get (g_fault rfl rfl hT.2.2.2.1.symm hT.2.2.2.2.symm _) k0
  rw [if_neg w3]
  by_cases w4 : scr (6 * c) &&& 31 = 4
  · rw [if_pos w4]
    exact l_get (g_has hK.1 hK.2.1 hK.2.2.1 hK.2.2.2.2.2.1.2.1 hK.2.2.2.2.2.2.2.1 _) k0
  rw [if_neg w4]
  by_cases w5 : scr (6 * c) &&& 31 = 5
  · rw [if_pos w5]
    exact l_get (g_letter hK.1 hK.2.1 hK.2.2.1 _ _ _) k0
  rw [if_neg w5]
  by_cases w6 : scr (6 * c) &&& 31 = 6
  · rw [if_pos w6]
    exact l_get (g_desk hK.1 hK.2.1 hK.2.2.1 _ _) k0
  rw [if_neg w6]
  by_cases w7 : scr (6 * c) &&& 31 = 7
  · rw [if_pos w7]
    exact l_get (g_deep hK.1 hK.2.1 hK.2.2.1 _ _) k0
  rw [if_neg w7]
  by_cases w8 : scr (6 * c) &&& 31 = 8
  · rw [if_pos w8]
    exact l_get (g_cell hK.1 hK.2.1 hK.2.2.1 _ _) k0
  rw [if_neg w8]
  by_cases w9 : scr (6 * c) &&& 31 = 9
  · rw [if_pos w9]
    exact l_get (g_sums hK.1 hK.2.1 hK.2.2.1 _ _) k0
  rw [if_neg w9]
  by_cases w10 : scr (6 * c) &&& 31 = 10
  · rw [if_pos w10]
    exact l_get (g_led hK.1 hK.2.1 hK.2.2.1 _ _) k0
  rw [if_neg w10]
  by_cases w11 : scr (6 * c) &&& 31 = 11
  · rw [if_pos w11]
    exact l_get (g_boat hK.1 hK.2.1 hK.2.2.1 _ _ _) k0
  rw [if_neg w11]
  by_cases w12 : scr (6 * c) &&& 31 = 12
  · rw [if_pos w12]
    exact l_get (g_first hK.1 hK.2.1 hK.2.2.1 _ _) k0
  rw [if_neg w12]
  by_cases w13 : scr (6 * c) &&& 31 = 13
  · rw [if_pos w13]
    exact l_get (g_turning hK.1 hK.2.1 hK.2.2.1 _ _) k0
  rw [if_neg w13]
  by_cases w14 : scr (6 * c) &&& 31 = 14
  · rw [if_pos w14]
    exact l_do (X := fun S' => lp_Law_18 scr L 2099 0 366 m (nI (6 * (c + 1))) S') (Y := fun S' => some (.inr (0, S'))) (l_mark _ _ _ _) h k
  rw [if_neg w14]
  by_cases w15 : scr (6 * c) &&& 31 = 15
  · rw [if_pos w15]
    exact l_do (X := fun S' => lp_Law_18 scr L 2099 0 366 m (nI (6 * (c + 1))) S') (Y := fun S' => some (.inr (0, S'))) (l_teach _) h k
  rw [if_neg w15]
  by_cases w16 : scr (6 * c) &&& 31 = 16
  · rw [if_pos w16]
    exact l_do (X := fun S' => lp_Law_18 scr L 2099 0 366 m (nI (6 * (c + 1))) S') (Y := fun S' => some (.inr (0, S'))) l_undo h k
  rw [if_neg w16]
  by_cases w17 : scr (6 * c) &&& 31 = 17
  · rw [if_pos w17]
    exact l_do (X := fun S' => lp_Law_18 scr L 2099 0 366 m (nI (6 * (c + 1))) S') (Y := fun S' => some (.inr (0, S'))) (l_stop _ _ _) h k
  rw [if_neg w17]
  by_cases w18 : scr (6 * c) &&& 31 = 18
  · rw [if_pos w18]
    exact l_do (X := fun S' => lp_Law_18 scr L 2099 0 366 m (nI (6 * (c + 1))) S') (Y := fun S' => some (.inr (0, S'))) (l_bring _ _ _) h k
  rw [if_neg w18]
  by_cases w19 : scr (6 * c) &&& 31 = 19
  · rw [if_pos w19]
    exact l_do (X := fun S' => lp_Law_18 scr L 2099 0 366 m (nI (6 * (c + 1))) S') (Y := fun S' => some (.inr (0, S'))) l_wet h k
  rw [if_neg w19]
  by_cases w20 : scr (6 * c) &&& 31 = 20
  · rw [if_pos w20]
    exact l_do (X := fun S' => lp_Law_18 scr L 2099 0 366 m (nI (6 * (c + 1))) S') (Y := fun S' => some (.inr (0, S'))) (l_early _ _) h k
  rw [if_neg w20]
  by_cases w21 : scr (6 * c) &&& 31 = 21
  · rw [if_pos w21]
    exact l_do (X := fun S' => lp_Law_18 scr L 2099 0 366 m (nI (6 * (c + 1))) S') (Y := fun S' => some (.inr (0, S'))) (l_encore _ _) h k
  rw [if_neg w21]
  by_cases w22 : scr (6 * c) &&& 31 = 22
  · rw [if_pos w22]
    exact l_do (X := fun S' => lp_Law_18 scr L 2099 0 366 m (nI (6 * (c + 1))) S') (Y := fun S' => some (.inr (0, S'))) (l_trout _ _ _) h k
  rw [if_neg w22]
  by_cases w23 : scr (6 * c) &&& 31 = 23
  · rw [if_pos w23]
    exact l_do (X := fun S' => lp_Law_18 scr L 2099 0 366 m (nI (6 * (c + 1))) S') (Y := fun S' => some (.inr (0, S'))) (l_seed _) h k
  rw [if_neg w23]
  by_cases w24 : scr (6 * c) &&& 31 = 24
  · rw [if_pos w24]
    exact l_do (X := fun S' => lp_Law_18 scr L 2099 0 366 m (nI (6 * (c + 1))) S') (Y := fun S' => some (.inr (0, S'))) l_ask h k
  rw [if_neg w24]
  by_cases w25 : scr (6 * c) &&& 31 = 25
  · rw [if_pos w25]
    exact l_do (X := fun S' => lp_Law_18 scr L 2099 0 366 m (nI (6 * (c + 1))) S') (Y := fun S' => some (.inr (0, S'))) l_image h k
  rw [if_neg w25]
  by_cases w26 : scr (6 * c) &&& 31 = 26
  · rw [if_pos w26]
    exact l_get (g_octet hR.2.2.1.1 hR.2.2.1.2.1 hR.2.2.1.2.2.1 hR.2.2.1.2.2.2 _) k0
  rw [if_neg w26]
  by_cases w27 : scr (6 * c) &&& 31 = 27
  · rw [if_pos w27]
    exact l_do (X := fun S' => lp_Law_18 scr L 2099 0 366 m (nI (6 * (c + 1))) S') (Y := fun S' => some (.inr (0, S'))) l_on h k
  rw [if_neg w27]
  exact k0
theorem l_all (hL : L ≤ 3072) : ∀ j c m S, L < 6 * c + 6 * j → 6 * c ≤ L → j < m → y_LP S S → z_ok (lp_Law_18 scr L 2099 0 366 m (nI (6 * c)) S) (fun t => ∃ S', t = .inl S') := by
  intro j
  induction j with
  | zero => intro c m S h1 h2 _ _; omega
  | succ j ih =>
    intro c m S h1 h2 hm h
    obtain ⟨m, rfl⟩ : ∃ m', m = m' + 1 := ⟨m - 1, by omega⟩
    by_cases q : 6 * c + 6 ≤ L
    · exact l_step q hL h (fun S' h' => ih (c + 1) m S' (by omega) (by omega) (by omega) h')
    · have stop : nI L - 6 < nI (6 * c) := by
        by_cases q6 : 6 ≤ L
        · rw [zl_6, z_sub q6]; exact nI_lt (by omega) (by omega)
        · have c0 : c = 0 := by omega
          subst c0
          have : ∀ L, L < 6 → nI L - 6 < nI (6 * 0) := by decide
          exact this L (by omega)
      rw [lp_Law_18, if_pos stop]
      exact z_some ⟨S, rfl⟩
theorem l_law (hL : L ≤ 3072) (h : y_LP S S) : ∃ M', f_Law scr L S = some (1, M') := by
  unfold f_Law
  obtain ⟨t, e, S', rfl⟩ := l_all (scr := scr) hL 513 0 jfuel S (by omega) (by omega) (by rw [z_jf]; omega) h
  have e : lp_Law_18 scr L 2099 0 366 jfuel 0 S = some (.inl S') := e
  rw [e]
  exact ⟨S', rfl⟩
end
