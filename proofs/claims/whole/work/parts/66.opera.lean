/-! ===== pure: ahead of an opera; an opera stands ===== -/
theorem z_be {α β : Type} {o : Option α} {f : α → Option β} {r : α} (h : o = some r) : o.bind f = f r := by rw [h]; rfl
section
variable {M N N' : SM} {R : Nat}
theorem c_fill {a L : Nat} {v : Int32} (hL : jln a = L) (hL2 : L ≤ 100) : z_ok (f_JA_fill a v M) (fun M' => z_Fr (fun i => i ≠ a) M M' ∧ ∀ k, k < L → M'.1 a k = v) := by
  unfold f_JA_fill
  rw [hL, zl_0]
  refine z_bind (P := fun M' => z_Fr (fun i => i ≠ a) M M' ∧ ∀ k, k < L → M'.1 a k = v) (z_loop (fun f k M' => lp_JA_fill_5 a v (nI L) f k M') (fun j M' => z_Fr (fun i => i ≠ a) M M' ∧ ∀ k, k < j → M'.1 a k = v) _ L ?_ ?_ jfuel 0 M (Nat.zero_le _) (by rw [z_jf]; omega) ⟨z_Fr.rf, fun k h => by omega⟩) (fun M' h => z_some h)
  · intro f j M' hj hI k
    show z_ok (lp_JA_fill_5 _ _ _ _ _ _) _
    rw [lp_JA_fill_5, if_pos (nI_lt hj (by omega)), z_aS hL hj (by omega)]
    simp only [Option.bind_some]
    rw [nI_1]
    refine k _ ⟨hI.1.sI (by omega), fun q hq => ?_⟩
    by_cases e : q = j
    · subst e; exact z_sIs _ _ _ _
    · rw [z_sIk _ _ _ _ e]; exact hI.2 q (by omega)
  · intro f M' hI
    show z_ok (lp_JA_fill_5 _ _ _ _ _ _) _
    rw [lp_JA_fill_5, if_neg (nI_nlt (Nat.le_refl _) (by omega))]
    exact z_some hI
def z_c0 (R : Nat) (M : SM) : Prop := M.1 R 0 = 0 ∧ M.1 R 2 = 0 ∧ M.1 R 3 = 99 ∧ M.1 R 4 = 0 ∧ M.1 (R + 30) 2 = 0 ∧ M.1 (R + 33) 2 = 0 ∧ M.1 (R + 36) 2 = 0 ∧ ∀ c, c < 12 → M.1 (R + 1) c = 0 ∧ M.1 (R + 2) c = 0 ∧ M.1 (R + 3) c = 0
theorem c_clear (hR : R = 7 ∨ R = 57) : z_ok (f_Op_clear R M) (fun M' => z_Fr (fun i => i < R ∨ R + 36 < i) M M' ∧ z_c0 R M') := by
  unfold f_Op_clear
  rw [jo_5 hR, jo_6 hR, jo_7 hR, jo_10 hR, jo_11 hR, jo_12 hR]
  generalize hM1 : sI (sI (sI (sI (sI (sI (sI (sI M R 0 0) R 1 0) R 2 0) R 3 99) R 4 0) (R + 30) 2 0) (R + 33) 2 0) (R + 36) 2 0 = M1
  have F1 : z_Fr (fun i => i < R ∨ R + 36 < i) M M1 := by
    rw [← hM1]
    exact (((((((z_Fr.rf.sI (by omega)).sI (by omega)).sI (by omega)).sI (by omega)).sI (by omega)).sI (by omega)).sI (by omega)).sI (by omega)
  have g0 : M1.1 R 0 = 0 ∧ M1.1 R 2 = 0 ∧ M1.1 R 3 = 99 ∧ M1.1 R 4 = 0 ∧ M1.1 (R + 30) 2 = 0 ∧ M1.1 (R + 33) 2 = 0 ∧ M1.1 (R + 36) 2 = 0 := by
    rw [← hM1]
    have r1 : R ≠ R + 30 := by omega
    have r2 : R ≠ R + 33 := by omega
    have r3 : R ≠ R + 36 := by omega
    have r4 : R + 30 ≠ R + 33 := by omega
    have r5 : R + 30 ≠ R + 36 := by omega
    have r6 : R + 33 ≠ R + 36 := by omega
    refine ⟨?_, ?_, ?_, ?_, ?_, ?_, ?_⟩
    · rw [z_sIa _ _ _ _ r3, z_sIa _ _ _ _ r2, z_sIa _ _ _ _ r1, z_sIk _ _ _ _ (by decide), z_sIk _ _ _ _ (by decide), z_sIk _ _ _ _ (by decide), z_sIk _ _ _ _ (by decide), z_sIs]
    · rw [z_sIa _ _ _ _ r3, z_sIa _ _ _ _ r2, z_sIa _ _ _ _ r1, z_sIk _ _ _ _ (by decide), z_sIk _ _ _ _ (by decide), z_sIs]
    · rw [z_sIa _ _ _ _ r3, z_sIa _ _ _ _ r2, z_sIa _ _ _ _ r1, z_sIk _ _ _ _ (by decide), z_sIs]
    · rw [z_sIa _ _ _ _ r3, z_sIa _ _ _ _ r2, z_sIa _ _ _ _ r1, z_sIs]
    · rw [z_sIa _ _ _ _ r5, z_sIa _ _ _ _ r4, z_sIs]
    · rw [z_sIa _ _ _ _ r6, z_sIs]
    · rw [z_sIs]
  refine z_bind (c_fill (jlo_1 hR) (by decide)) (fun M2 h2 => z_bind (c_fill (jlo_2 hR) (by decide)) (fun M3 h3 => z_bind (c_fill (jlo_3 hR) (by decide)) (fun M4 h4 => z_some ⟨?_, ?_⟩)))
  · exact ((F1.tr (h2.1.wk (fun i q => by omega))).tr (h3.1.wk (fun i q => by omega))).tr (h4.1.wk (fun i q => by omega))
  · have k : ∀ i, i ≠ R + 1 → i ≠ R + 2 → i ≠ R + 3 → M4.1 i = M1.1 i := fun i a b c => by rw [h4.1.1 i c, h3.1.1 i b, h2.1.1 i a]
    obtain ⟨a1, a2, a3, a4, a5, a6, a7⟩ := g0
    refine ⟨?_, ?_, ?_, ?_, ?_, ?_, ?_, fun c hc => ⟨?_, ?_, h4.2 c hc⟩⟩
    · rw [k R (by omega) (by omega) (by omega)]; exact a1
    · rw [k R (by omega) (by omega) (by omega)]; exact a2
    · rw [k R (by omega) (by omega) (by omega)]; exact a3
    · rw [k R (by omega) (by omega) (by omega)]; exact a4
    · rw [k _ (by omega) (by omega) (by omega)]; exact a5
    · rw [k _ (by omega) (by omega) (by omega)]; exact a6
    · rw [k _ (by omega) (by omega) (by omega)]; exact a7
    · rw [h4.1.1 _ (by omega), h3.1.1 _ (by omega)]; exact h2.2 c hc
    · rw [h4.1.1 _ (by omega)]; exact h3.2 c hc
/-! the reference -/
def z_m0 (N : SM) : Prop := N.1 395 0 = 0 ∧ N.1 396 0 = 99 ∧ (∀ i, i < 4 → N.1 385 i = 0) ∧ ∀ c, c < 12 → N.1 387 c = 0 ∧ N.1 388 c = 0 ∧ N.1 389 c = 0
def z_mr (M11 : SM) : Option (Int32 × SM) := (f_Mo_asks 366 (jpf 366 10) M11).bind fun q12 => (f_Mo_number 366 2 12 q12).bind fun q13 => (f_Mo_asksSign 366 59 (sI q13.2 366 30 q13.1)).bind fun q14 => (lp_Mo_opera_104 366 jfuel (sI q14 366 42 1)).bind fun q19 => if ((sI (sI q19 366 7 (q19.1 366 5)) 366 8 ((sI q19 366 7 (q19.1 366 5)).1 366 6)).1 366 5) = 0 then ((f_Mo_stands 366 (sI (sI q19 366 7 (q19.1 366 5)) 366 8 ((sI q19 366 7 (q19.1 366 5)).1 366 6))).bind fun q21 => some (q21.1 366 42, q21)) else (some ((-1), sI (sI q19 366 7 (q19.1 366 5)) 366 8 ((sI q19 366 7 (q19.1 366 5)).1 366 6)))
theorem m_init : ∃ N1, f_Mo_opera 366 N = z_mr N1 ∧ (∃ N0, f_Mo_starts 366 N = some N0 ∧ z_YN N0 N1 ∧ (∀ k, N1.1 366 k = N0.1 366 k) ∧ (∀ i, i < 385 → N1.1 i = N0.1 i)) ∧ z_m0 N1 := by
  unfold f_Mo_opera
  generalize hs : sI (sI (sI (sI (sI (sI N 366 3 (N.1 366 1)) 366 1 0) 366 2 0) 366 4 (-1)) 366 5 0) 366 6 (-1) = N0
  have es : f_Mo_starts 366 N = some N0 := by unfold f_Mo_starts; rw [hs]
  have l6 : z_ok (lp_Mo_opera_6 366 jfuel 0 N0) (fun N' => z_YN N0 N' ∧ (∀ i, i ≠ 385 → N'.1 i = N0.1 i) ∧ ∀ i, i < 4 → N'.1 385 i = 0) := by
    rw [zl_0]
    refine z_loop (fun f k N' => lp_Mo_opera_6 366 f k N') (fun j N' => z_YN N0 N' ∧ (∀ i, i ≠ 385 → N'.1 i = N0.1 i) ∧ ∀ i, i < j → N'.1 385 i = 0) _ 4 ?_ ?_ jfuel 0 N0 (Nat.zero_le _) (by rw [z_jf]; omega) ⟨z_YN.rf, fun _ _ => rfl, fun k h => by omega⟩
    · intro f j N' hj hI k
      show z_ok (lp_Mo_opera_6 _ _ _ _) _
      rw [lp_Mo_opera_6, zl_4, if_pos (nI_lt hj (by decide)), jm_28, zs_385 _ (by omega)]
      simp only [Option.bind_some]
      rw [nI_1]
      refine k _ ⟨hI.1.s (z_pn (by decide) (by decide) (show j < 4 from hj)), fun i hi => by rw [z_sIa _ _ _ _ hi]; exact hI.2.1 i hi, fun q hq => ?_⟩
      by_cases e : q = j
      · subst e; exact z_sIs _ _ _ _
      · rw [z_sIk _ _ _ _ e]; exact hI.2.2 q (by omega)
    · intro f N' hI
      show z_ok (lp_Mo_opera_6 _ _ _ _) _
      rw [lp_Mo_opera_6, if_neg (by decide)]
      exact z_some hI
  obtain ⟨N4, e4, y4, f4, g4⟩ := l6
  have l26 : z_ok (lp_Mo_opera_26 366 jfuel 0 N4) (fun N' => z_YN N4 N' ∧ (∀ i, i ≠ 387 → i ≠ 388 → i ≠ 389 → N'.1 i = N4.1 i) ∧ ∀ i, i < 12 → N'.1 387 i = 0 ∧ N'.1 388 i = 0 ∧ N'.1 389 i = 0) := by
    rw [zl_0]
    refine z_loop (fun f k N' => lp_Mo_opera_26 366 f k N') (fun j N' => z_YN N4 N' ∧ (∀ i, i ≠ 387 → i ≠ 388 → i ≠ 389 → N'.1 i = N4.1 i) ∧ ∀ i, i < j → N'.1 387 i = 0 ∧ N'.1 388 i = 0 ∧ N'.1 389 i = 0) _ 12 ?_ ?_ jfuel 0 N4 (Nat.zero_le _) (by rw [z_jf]; omega) ⟨z_YN.rf, fun _ _ _ _ => rfl, fun k h => by omega⟩
    · intro f j N' hj hI k
      show z_ok (lp_Mo_opera_26 _ _ _ _) _
      rw [lp_Mo_opera_26, zl_12, if_pos (nI_lt hj (by decide)), jm_32, jm_33, jm_34, zs_387 _ (by omega)]
      simp only [Option.bind_some]
      rw [zs_388 _ (by omega)]
      simp only [Option.bind_some]
      rw [zs_389 _ (by omega)]
      simp only [Option.bind_some]
      rw [nI_1]
      refine k _ ⟨((hI.1.s (z_pn (by decide) (by decide) (show j < 12 from hj))).s (z_pn (by decide) (by decide) (show j < 12 from hj))).s (z_pn (by decide) (by decide) (show j < 12 from hj)), fun i h1 h2 h3 => by rw [z_sIa _ _ _ _ h3, z_sIa _ _ _ _ h2, z_sIa _ _ _ _ h1]; exact hI.2.1 i h1 h2 h3, fun q hq => ?_⟩
      by_cases e : q = j
      · subst e
        refine ⟨?_, ?_, z_sIs _ _ _ _⟩
        · rw [z_sIa _ _ _ _ (by decide), z_sIa _ _ _ _ (by decide)]; exact z_sIs _ _ _ _
        · rw [z_sIa _ _ _ _ (by decide)]; exact z_sIs _ _ _ _
      · have h := hI.2.2 q (by omega)
        refine ⟨?_, ?_, ?_⟩
        · rw [z_sIa _ _ _ _ (by decide), z_sIa _ _ _ _ (by decide), z_sIk _ _ _ _ e]; exact h.1
        · rw [z_sIa _ _ _ _ (by decide), z_sIk _ _ _ _ e, z_sIa _ _ _ _ (by decide)]; exact h.2.1
        · rw [z_sIk _ _ _ _ e, z_sIa _ _ _ _ (by decide), z_sIa _ _ _ _ (by decide)]; exact h.2.2
    · intro f N' hI
      show z_ok (lp_Mo_opera_26 _ _ _ _) _
      rw [lp_Mo_opera_26, if_neg (by decide)]
      exact z_some hI
  obtain ⟨N9, e9, y9, f9, g9⟩ := l26
  refine ⟨sI (sI N9 395 0 0) 396 0 99, ?_, ⟨N0, es, (((y4.tr y9).s (z_pn (by decide) (by decide) (by decide))).s (z_pn (by decide) (by decide) (by decide))), fun k => ?_, fun i hi => ?_⟩, ?_, ?_, fun i hi => ?_, fun c hc => ?_⟩
  · rw [es]
    simp only [Option.bind_some]
    rw [e4]
    simp only [Option.bind_some]
    rw [e9]
    simp only [Option.bind_some]
    rw [jm_40, jm_41]
    refine (z_be (zs_395 _ (k := 0) (by decide))).trans ?_
    exact z_be (zs_396 _ (k := 0) (by decide))
  · rw [z_sIa _ _ _ _ (by decide), z_sIa _ _ _ _ (by decide), f9 366 (by decide) (by decide) (by decide), f4 366 (by decide)]
  · rw [z_sIa _ _ _ _ (by omega), z_sIa _ _ _ _ (by omega), f9 i (by omega) (by omega) (by omega), f4 i (by omega)]
  · rw [z_sIa _ _ _ _ (by decide)]; exact z_sIs _ _ _ _
  · exact z_sIs _ _ _ _
  · rw [z_sIa _ _ _ _ (by decide), z_sIa _ _ _ _ (by decide), f9 385 (by decide) (by decide) (by decide)]; exact g4 i hi
  · have h := g9 c hc
    refine ⟨?_, ?_, ?_⟩
    · rw [z_sIa _ _ _ _ (by decide), z_sIa _ _ _ _ (by decide)]; exact h.1
    · rw [z_sIa _ _ _ _ (by decide), z_sIa _ _ _ _ (by decide)]; exact h.2.1
    · rw [z_sIa _ _ _ _ (by decide), z_sIa _ _ _ _ (by decide)]; exact h.2.2
/-! copies -/
def z_ro (a L j : Nat) (N N' : SM) : Prop := ∀ k, N'.1 a k = if L ≤ k ∧ k < L + j then N.1 a (k - L) else N.1 a k
theorem z_ro.z {a L : Nat} : z_ro a L 0 N N := fun k => by rw [if_neg (by omega)]
theorem z_ro.lo {a L j k : Nat} (h : z_ro a L j N N') (hk : k < L) : N'.1 a k = N.1 a k := by rw [h k, if_neg (by omega)]
theorem z_ro.s {a L j : Nat} (h : z_ro a L j N N') (hj : j < L) : z_ro a L (j + 1) N (sI N' a (L + j) (N'.1 a j)) := fun k => by
  by_cases e : k = L + j
  · subst e
    rw [z_sIs, if_pos (by omega), h.lo hj, show L + j - L = j by omega]
  · rw [z_sIk _ _ _ _ e, h k]
    by_cases c : L ≤ k ∧ k < L + j
    · rw [if_pos c, if_pos (by omega)]
    · rw [if_neg c, if_neg (by omega)]
theorem z_ro.o {a L j b k : Nat} {v : Int32} (h : z_ro a L j N N') (hb : a ≠ b) : z_ro a L j N (sI N' b k v) := fun q => by rw [z_sIa _ _ _ _ hb]; exact h q
theorem z_ro.hi {a L j k : Nat} (h : z_ro a L j N N') (hk : k < j) : N'.1 a (L + k) = N.1 a k := by
  rw [h, if_pos (by omega), show L + k - L = k by omega]

theorem m_cp10 : z_ok (lp_Mo_stands_10 366 jfuel 0 N) (fun N' => N'.2 = N.2 ∧ (∀ i, i ≠ 385 → N'.1 i = N.1 i) ∧ z_ro 385 4 4 N N') := by
  rw [zl_0]
  refine z_loop (fun f k N' => lp_Mo_stands_10 366 f k N') (fun j N' => N'.2 = N.2 ∧ (∀ i, i ≠ 385 → N'.1 i = N.1 i) ∧ z_ro 385 4 j N N') _ 4 ?_ ?_ jfuel 0 N (Nat.zero_le _) (by rw [z_jf]; omega) ⟨rfl, fun _ _ => rfl, z_ro.z⟩
  · intro f j N' hj hI k
    obtain ⟨h2, hF, r0⟩ := hI
    show z_ok (lp_Mo_stands_10 _ _ _ _) _
    rw [lp_Mo_stands_10, show (4 : Int32) = nI 4 from rfl, if_pos (nI_lt hj (by decide)), jm_28, z_add]
    rw [zi_385 _ (by omega)]
    simp only [Option.bind_some]
    rw [zs_385 _ (by omega)]
    simp only [Option.bind_some]
    rw [nI_1]
    refine k _ ⟨h2, fun i h0 => ?_, (r0.s (by omega))⟩
    rw [z_sIa _ _ _ _ h0]; exact hF i h0
  · intro f N' hI
    show z_ok (lp_Mo_stands_10 _ _ _ _) _
    rw [lp_Mo_stands_10, if_neg (by decide)]
    exact z_some hI
theorem m_cp66 : z_ok (lp_Mo_stands_66 366 jfuel 0 N) (fun N' => N'.2 = N.2 ∧ (∀ i, i ≠ 387 → i ≠ 388 → i ≠ 389 → N'.1 i = N.1 i) ∧ z_ro 387 12 12 N N' ∧ z_ro 388 12 12 N N' ∧ z_ro 389 12 12 N N') := by
  rw [zl_0]
  refine z_loop (fun f k N' => lp_Mo_stands_66 366 f k N') (fun j N' => N'.2 = N.2 ∧ (∀ i, i ≠ 387 → i ≠ 388 → i ≠ 389 → N'.1 i = N.1 i) ∧ z_ro 387 12 j N N' ∧ z_ro 388 12 j N N' ∧ z_ro 389 12 j N N') _ 12 ?_ ?_ jfuel 0 N (Nat.zero_le _) (by rw [z_jf]; omega) ⟨rfl, fun _ _ _ _ => rfl, z_ro.z, z_ro.z, z_ro.z⟩
  · intro f j N' hj hI k
    obtain ⟨h2, hF, r0, r1, r2⟩ := hI
    show z_ok (lp_Mo_stands_66 _ _ _ _) _
    rw [lp_Mo_stands_66, show (12 : Int32) = nI 12 from rfl, if_pos (nI_lt hj (by decide)), jm_32, jm_33, jm_34, z_add]
    rw [zi_387 _ (by omega)]
    simp only [Option.bind_some]
    rw [zs_387 _ (by omega)]
    simp only [Option.bind_some]
    rw [zi_388 _ (by omega)]
    simp only [Option.bind_some]
    rw [zs_388 _ (by omega)]
    simp only [Option.bind_some]
    rw [zi_389 _ (by omega)]
    simp only [Option.bind_some]
    rw [zs_389 _ (by omega)]
    simp only [Option.bind_some]
    rw [nI_1]
    refine k _ ⟨h2, fun i h0 h1 h2 => ?_, (((r0.s (by omega)).o (show 387 ≠ 388 by decide)).o (show 387 ≠ 389 by decide)), (((r1.o (show 388 ≠ 387 by decide)).s (by omega)).o (show 388 ≠ 389 by decide)), (((r2.o (show 389 ≠ 387 by decide)).o (show 389 ≠ 388 by decide)).s (by omega))⟩
    rw [z_sIa _ _ _ _ h2, z_sIa _ _ _ _ h1, z_sIa _ _ _ _ h0]; exact hF i h0 h1 h2
  · intro f N' hI
    show z_ok (lp_Mo_stands_66 _ _ _ _) _
    rw [lp_Mo_stands_66, if_neg (by decide)]
    exact z_some hI
theorem m_cp125 : z_ok (lp_Mo_stands_125 366 jfuel 0 N) (fun N' => N'.2 = N.2 ∧ (∀ i, i ≠ 390 → i ≠ 392 → i ≠ 393 → i ≠ 394 → N'.1 i = N.1 i) ∧ z_ro 390 8 8 N N' ∧ z_ro 392 8 8 N N' ∧ z_ro 393 8 8 N N' ∧ z_ro 394 8 8 N N') := by
  rw [zl_0]
  refine z_loop (fun f k N' => lp_Mo_stands_125 366 f k N') (fun j N' => N'.2 = N.2 ∧ (∀ i, i ≠ 390 → i ≠ 392 → i ≠ 393 → i ≠ 394 → N'.1 i = N.1 i) ∧ z_ro 390 8 j N N' ∧ z_ro 392 8 j N N' ∧ z_ro 393 8 j N N' ∧ z_ro 394 8 j N N') _ 8 ?_ ?_ jfuel 0 N (Nat.zero_le _) (by rw [z_jf]; omega) ⟨rfl, fun _ _ _ _ _ => rfl, z_ro.z, z_ro.z, z_ro.z, z_ro.z⟩
  · intro f j N' hj hI k
    obtain ⟨h2, hF, r0, r1, r2, r3⟩ := hI
    show z_ok (lp_Mo_stands_125 _ _ _ _) _
    rw [lp_Mo_stands_125, show (8 : Int32) = nI 8 from rfl, if_pos (nI_lt hj (by decide)), jm_35, jm_37, jm_38, jm_39, z_add]
    rw [zi_390 _ (by omega)]
    simp only [Option.bind_some]
    rw [zs_390 _ (by omega)]
    simp only [Option.bind_some]
    rw [zi_392 _ (by omega)]
    simp only [Option.bind_some]
    rw [zs_392 _ (by omega)]
    simp only [Option.bind_some]
    rw [zi_393 _ (by omega)]
    simp only [Option.bind_some]
    rw [zs_393 _ (by omega)]
    simp only [Option.bind_some]
    rw [zi_394 _ (by omega)]
    simp only [Option.bind_some]
    rw [zs_394 _ (by omega)]
    simp only [Option.bind_some]
    rw [nI_1]
    refine k _ ⟨h2, fun i h0 h1 h2 h3 => ?_, ((((r0.s (by omega)).o (show 390 ≠ 392 by decide)).o (show 390 ≠ 393 by decide)).o (show 390 ≠ 394 by decide)), ((((r1.o (show 392 ≠ 390 by decide)).s (by omega)).o (show 392 ≠ 393 by decide)).o (show 392 ≠ 394 by decide)), ((((r2.o (show 393 ≠ 390 by decide)).o (show 393 ≠ 392 by decide)).s (by omega)).o (show 393 ≠ 394 by decide)), ((((r3.o (show 394 ≠ 390 by decide)).o (show 394 ≠ 392 by decide)).o (show 394 ≠ 393 by decide)).s (by omega))⟩
    rw [z_sIa _ _ _ _ h3, z_sIa _ _ _ _ h2, z_sIa _ _ _ _ h1, z_sIa _ _ _ _ h0]; exact hF i h0 h1 h2 h3
  · intro f N' hI
    show z_ok (lp_Mo_stands_125 _ _ _ _) _
    rw [lp_Mo_stands_125, if_neg (by decide)]
    exact z_some hI
theorem m_cp199 : z_ok (lp_Mo_stands_199 366 jfuel 0 N) (fun N' => N'.2 = N.2 ∧ (∀ i, i ≠ 391 → N'.1 i = N.1 i) ∧ z_ro 391 488 488 N N') := by
  rw [zl_0]
  refine z_loop (fun f k N' => lp_Mo_stands_199 366 f k N') (fun j N' => N'.2 = N.2 ∧ (∀ i, i ≠ 391 → N'.1 i = N.1 i) ∧ z_ro 391 488 j N N') _ 488 ?_ ?_ jfuel 0 N (Nat.zero_le _) (by rw [z_jf]; omega) ⟨rfl, fun _ _ => rfl, z_ro.z⟩
  · intro f j N' hj hI k
    obtain ⟨h2, hF, r0⟩ := hI
    show z_ok (lp_Mo_stands_199 _ _ _ _) _
    rw [lp_Mo_stands_199, show (488 : Int32) = nI 488 from rfl, if_pos (nI_lt hj (by decide)), jm_36, z_add]
    rw [zi_391 _ (by omega)]
    simp only [Option.bind_some]
    rw [zs_391 _ (by omega)]
    simp only [Option.bind_some]
    rw [nI_1]
    refine k _ ⟨h2, fun i h0 => ?_, (r0.s (by omega))⟩
    rw [z_sIa _ _ _ _ h0]; exact hF i h0
  · intro f N' hI
    show z_ok (lp_Mo_stands_199 _ _ _ _) _
    rw [lp_Mo_stands_199, if_neg (by decide)]
    exact z_some hI
theorem m_cp37 : z_ok (lp_Mo_stands_37 366 jfuel 0 N) (fun N' => N'.1 = N.1 ∧ (∀ i k, i ≠ 386 → N'.2 i k = N.2 i k) ∧ ∀ k, k < 24 → N'.2 386 (24 + k) = N.2 386 k) := by
  rw [zl_0]
  have l := z_loop (fun f k N' => lp_Mo_stands_37 366 f k N') (fun j N' => N'.1 = N.1 ∧ (∀ i k, i ≠ 386 → N'.2 i k = N.2 i k) ∧ (∀ k, k < 24 → N'.2 386 k = N.2 386 k) ∧ ∀ k, k < j → N'.2 386 (24 + k) = N.2 386 k) (fun N' => N'.1 = N.1 ∧ (∀ i k, i ≠ 386 → N'.2 i k = N.2 i k) ∧ (∀ k, k < 24 → N'.2 386 k = N.2 386 k) ∧ ∀ k, k < 24 → N'.2 386 (24 + k) = N.2 386 k) 24 ?_ ?_ jfuel 0 N (Nat.zero_le _) (by rw [z_jf]; omega) ⟨rfl, fun _ _ _ => rfl, fun _ _ => rfl, fun k h => by omega⟩
  · exact z_mono l (fun N' h => ⟨h.1, h.2.1, h.2.2.2⟩)
  · intro f j N' hj hI k
    obtain ⟨h1, h2, h3, h4⟩ := hI
    show z_ok (lp_Mo_stands_37 _ _ _ _) _
    rw [lp_Mo_stands_37, zl_24, if_pos (nI_lt hj (by decide)), jm_29, z_add, zi_386 _ (by omega)]
    simp only [Option.bind_some]
    rw [zs_386 _ (by omega)]
    simp only [Option.bind_some]
    rw [nI_1]
    refine k _ ⟨h1, fun i q hi => by rw [z_sL, if_neg hi]; exact h2 i q hi, fun q hq => by rw [z_sL, if_pos rfl, if_neg (by omega)]; exact h3 q hq, fun q hq => ?_⟩
    rw [z_sL, if_pos rfl]
    by_cases e : q = j
    · subst e
      rw [if_pos rfl]; exact h3 q hj
    · rw [if_neg (by omega)]; exact h4 q (by omega)
  · intro f N' hI
    show z_ok (lp_Mo_stands_37 _ _ _ _) _
    rw [lp_Mo_stands_37, if_neg (by decide)]
    exact z_some hI
/-- the opera stands, the reference: ahead of plays -/
theorem m_stands {A : ZA} {nm : Nat → Nat → Nat} {P : ZP} (hQ : z_QB R A nm P M N) (hS : z_NS N) (hW : z_WB A nm P) :
    z_ok (f_Mo_stands 366 N) (fun N' => z_MB A nm P N' ∧ (∀ i, i ≠ 366 → (i < 385 ∨ 404 < i ∨ i = 404) → N'.1 i = N.1 i) ∧ (∀ i k, i ≠ 386 → N'.2 i k = N.2 i k) ∧ (∀ k, k ≠ 31 → (k < 54 ∨ 58 < k) → k ≠ 63 → k ≠ 65 → N'.1 366 k = N.1 366 k) ∧ N'.1 366 63 = nI 0 ∧ N'.1 366 65 = nI 0) := by
  have hb := hQ.2.2.1.b rfl
  have h00 : 0 < A 0 0 := by omega
  obtain ⟨h1, h2, h3, h4, h5, h6, h7, h8, h9⟩ := hQ
  have hd8 := h3.nA rfl
  have g := fun i k (hi : i < 11) (hk : k < 12) (hD : z_dk A i k) => (h3 i k hi hk hD).2.1
  have h30 : N.1 366 30 = nI (A 0 0) := g 0 0 (by decide) (by decide) (show 0 < 7 by decide)
  have h395 : N.1 395 0 = nI (A 0 1) := g 0 1 (by decide) (by decide) (show 1 < 7 by decide)
  have h396 : N.1 396 0 = nI (A 0 2) := g 0 2 (by decide) (by decide) (show 2 < 7 by decide)
  have h385 : ∀ i, i < 4 → N.1 385 i = nI (A 0 (3 + i)) := fun i hi => z_EE.many h3 hi
  unfold f_Mo_stands
  refine z_bind m_cp10 (fun N1 c1 => z_bind m_cp37 (fun N2 c2 => z_bind m_cp66 (fun N3 c3 => z_bind m_cp125 (fun N4 c4 => z_bind m_cp199 (fun N5 c5 => ?_)))))
  obtain ⟨a1, b1, r385⟩ := c1
  obtain ⟨a2, b2, r386⟩ := c2
  obtain ⟨a3, b3, r387, r388, r389⟩ := c3
  obtain ⟨a4, b4, r390, r392, r393, r394⟩ := c4
  obtain ⟨a5, b5, r391⟩ := c5
  have F : ∀ i, i ≠ 366 → (i < 385 ∨ 394 < i) → N5.1 i = N.1 i := fun i h hi => by
    rw [b5 i (by omega), b4 i (by omega) (by omega) (by omega) (by omega), b3 i (by omega) (by omega) (by omega), a2, b1 i (by omega), z_sIa _ _ _ _ h]
  have F366 : ∀ k, k ≠ 31 → N5.1 366 k = N.1 366 k := fun k hk => by
    rw [b5 366 (by decide), b4 366 (by decide) (by decide) (by decide) (by decide), b3 366 (by decide) (by decide) (by decide), a2, b1 366 (by decide), z_sIk _ _ _ _ hk]
  have F31 : N5.1 366 31 = nI (A 0 0) := by
    rw [b5 366 (by decide), b4 366 (by decide) (by decide) (by decide) (by decide), b3 366 (by decide) (by decide) (by decide), a2, b1 366 (by decide), z_sIs]; exact h30
  have F2 : N5.2 = N2.2 := by rw [a5, a4, a3]
  rw [jm_40, jm_41, zl_0, zl_1]
  refine z_eq (zi_395 _ (by decide)) (z_eq (zs_395 _ (by decide)) ?_)
  refine z_eq (zi_396 _ (by decide)) (z_eq (zs_396 _ (by decide)) ?_)
  rw [z_sIa _ _ _ _ (show 396 ≠ 395 by decide), F 395 (by decide) (by decide), F 396 (by decide) (by decide), h395, h396]
  generalize hN6 : sI (sI (sI (sI N5 395 1 (nI (A 0 1))) 396 1 (nI (A 0 2))) 366 63 (nI 0)) 366 65 (nI 0) = N6
  have G : ∀ i, i ≠ 366 → i ≠ 395 → i ≠ 396 → N6.1 i = N5.1 i := fun i x y z => by rw [← hN6, z_sIa _ _ _ _ x, z_sIa _ _ _ _ x, z_sIa _ _ _ _ z, z_sIa _ _ _ _ y]
  have G366 : ∀ k, k ≠ 63 → k ≠ 65 → N6.1 366 k = N5.1 366 k := fun k x y => by rw [← hN6, z_sIk _ _ _ _ y, z_sIk _ _ _ _ x, z_sIa _ _ _ _ (by decide), z_sIa _ _ _ _ (by decide)]
  have G395 : N6.1 395 1 = nI (A 0 1) := by rw [← hN6, z_sIa _ _ _ _ (by decide), z_sIa _ _ _ _ (by decide), z_sIa _ _ _ _ (by decide), z_sIs]
  have G396 : N6.1 396 1 = nI (A 0 2) := by rw [← hN6, z_sIa _ _ _ _ (by decide), z_sIa _ _ _ _ (by decide), z_sIs]
  have G2 : N6.2 = N5.2 := by rw [← hN6]; rfl
  have G63 : N6.1 366 63 = nI 0 := by rw [← hN6, z_sIk _ _ _ _ (by decide), z_sIs]
  have G65 : N6.1 366 65 = nI 0 := by rw [← hN6, z_sIs]
  have MH : z_MH A nm P N6 := by
    refine ⟨⟨?_, G395, Or.inl G396, ?_, ?_, ?_, ?_, fun c hc => ⟨?_, ?_, ?_⟩, fun d hd => ?_, fun i hi => ⟨?_, ?_⟩, fun i hi => ⟨?_, ?_⟩, fun i hi => ⟨?_, ?_⟩⟩, fun d hd => ⟨?_, fun b b1' b2' => ?_⟩, ?_, fun i w hi hw => ?_⟩
    · rw [G366 31 (by decide) (by decide)]; exact F31
    · rw [G 385 (by decide) (by decide) (by decide), b5 385 (by decide), b4 385 (by decide) (by decide) (by decide) (by decide), b3 385 (by decide) (by decide) (by decide), a2, show 4 = 4 + 0 from rfl, r385.hi (by decide), z_sIa _ _ _ _ (by decide)]; exact h385 0 (by decide)
    · rw [G 385 (by decide) (by decide) (by decide), b5 385 (by decide), b4 385 (by decide) (by decide) (by decide) (by decide), b3 385 (by decide) (by decide) (by decide), a2, show 5 = 4 + 1 from rfl, r385.hi (by decide), z_sIa _ _ _ _ (by decide)]; exact h385 1 (by decide)
    · rw [G 385 (by decide) (by decide) (by decide), b5 385 (by decide), b4 385 (by decide) (by decide) (by decide) (by decide), b3 385 (by decide) (by decide) (by decide), a2, show 6 = 4 + 2 from rfl, r385.hi (by decide), z_sIa _ _ _ _ (by decide)]; exact h385 2 (by decide)
    · rw [G 385 (by decide) (by decide) (by decide), b5 385 (by decide), b4 385 (by decide) (by decide) (by decide) (by decide), b3 385 (by decide) (by decide) (by decide), a2, show 7 = 4 + 3 from rfl, r385.hi (by decide), z_sIa _ _ _ _ (by decide)]; exact h385 3 (by decide)
    · rw [G 387 (by decide) (by decide) (by decide), b5 387 (by decide), b4 387 (by decide) (by decide) (by decide) (by decide), r387.hi (by omega), a2, b1 387 (by decide), z_sIa _ _ _ _ (by decide)]; exact g 1 c (by decide) (by omega) hc
    · rw [G 388 (by decide) (by decide) (by decide), b5 388 (by decide), b4 388 (by decide) (by decide) (by decide) (by decide), r388.hi (by omega), a2, b1 388 (by decide), z_sIa _ _ _ _ (by decide)]; exact g 2 c (by decide) (by omega) hc
    · rw [G 389 (by decide) (by decide) (by decide), b5 389 (by decide), b4 389 (by decide) (by decide) (by decide) (by decide), r389.hi (by omega), a2, b1 389 (by decide), z_sIa _ _ _ _ (by decide)]; exact g 3 c (by decide) (by omega) hc
    · rw [G 390 (by decide) (by decide) (by decide), b5 390 (by decide), r390.hi (by omega), b3 390 (by decide) (by decide) (by decide), a2, b1 390 (by decide), z_sIa _ _ _ _ (by decide)]; exact g 4 d (by decide) (by omega) hd
    · rw [G 392 (by decide) (by decide) (by decide), b5 392 (by decide), r392.hi (by omega), b3 392 (by decide) (by decide) (by decide), a2, b1 392 (by decide), z_sIa _ _ _ _ (by decide)]; exact g 5 i (by decide) (by omega) hi
    · rw [G 392 (by decide) (by decide) (by decide), b5 392 (by decide), show 8 + 2 * i + 1 = 8 + (2 * i + 1) by omega, r392.hi (by omega), b3 392 (by decide) (by decide) (by decide), a2, b1 392 (by decide), z_sIa _ _ _ _ (by decide)]; exact g 6 i (by decide) (by omega) hi
    · rw [G 393 (by decide) (by decide) (by decide), b5 393 (by decide), r393.hi (by omega), b3 393 (by decide) (by decide) (by decide), a2, b1 393 (by decide), z_sIa _ _ _ _ (by decide)]; exact g 7 i (by decide) (by omega) hi
    · rw [G 393 (by decide) (by decide) (by decide), b5 393 (by decide), show 8 + 2 * i + 1 = 8 + (2 * i + 1) by omega, r393.hi (by omega), b3 393 (by decide) (by decide) (by decide), a2, b1 393 (by decide), z_sIa _ _ _ _ (by decide)]; exact g 8 i (by decide) (by omega) hi
    · rw [G 394 (by decide) (by decide) (by decide), b5 394 (by decide), r394.hi (by omega), b3 394 (by decide) (by decide) (by decide), a2, b1 394 (by decide), z_sIa _ _ _ _ (by decide)]; exact g 9 i (by decide) (by omega) hi
    · rw [G 394 (by decide) (by decide) (by decide), b5 394 (by decide), show 8 + 2 * i + 1 = 8 + (2 * i + 1) by omega, r394.hi (by omega), b3 394 (by decide) (by decide) (by decide), a2, b1 394 (by decide), z_sIa _ _ _ _ (by decide)]; exact g 10 i (by decide) (by omega) hi
    · rw [G 391 (by decide) (by decide) (by decide), r391.hi (by omega), b4 391 (by decide) (by decide) (by decide) (by decide), b3 391 (by decide) (by decide) (by decide), a2, b1 391 (by decide), z_sIa _ _ _ _ (by decide)]; exact (h8 d hd).1
    · have := (h9 d hd).1
      rw [G 391 (by decide) (by decide) (by decide), show 488 + 61 * d + b = 488 + (61 * d + b) by omega, r391.hi (by omega), b4 391 (by decide) (by decide) (by decide) (by decide), b3 391 (by decide) (by decide) (by decide), a2, b1 391 (by decide), z_sIa _ _ _ _ (by decide)]; exact (h8 d hd).2 b b1' b2'
    · exact ⟨(G366 47 (by decide) (by decide)).trans ((F366 47 (by decide)).trans hS.1), (G366 48 (by decide) (by decide)).trans ((F366 48 (by decide)).trans hS.2.1), (G366 50 (by decide) (by decide)).trans ((F366 50 (by decide)).trans hS.2.2)⟩
    · have := hd8 i hi
      rw [G2, F2, show 24 + 8 * i + w = 24 + (8 * i + w) by omega, r386 _ (by omega), a1]
      exact h5 i w hi hw
  refine z_bind (m_replay hW h00 MH) (fun N7 h => z_some ⟨h.1, fun i hi hi2 => ?_, fun i k hi => ?_, fun k k1 k2 k3 k4 => ?_, ?_, ?_⟩)
  · rw [h.2.1.1 i ⟨hi, by omega⟩, G i hi (by omega) (by omega)]
    exact F i hi (by omega)
  · rw [h.2.1.2, G2, F2, b2 i k hi, a1]; rfl
  · rw [h.2.2 k k2, G366 k k3 k4]; exact F366 k k1
  · rw [h.2.2 63 (by decide)]; exact G63
  · rw [h.2.2 65 (by decide)]; exact G65
end
