/-! ===== pure: images ===== -/
theorem z_cap {α : Type} {f : Nat → α → α} : ∀ {k : Nat} {s : α}, z_it f (k + 1) s = f k (z_it f k s) := rfl
section
variable {o : Nat} {A : ZA} {nm : Nat → Nat → Nat} {P P' : ZP} {M N : SM} {n p : Nat} {T : Nat → Nat}
theorem z_CB.fl {M' : SM} (hW : z_WB A nm P) (h : z_CB o A nm P M) (k : ∀ i, i < 319 → M'.1 i = M.1 i) : z_CB o A nm P M' := by
  obtain ⟨h1, h2, h3, h4, h5, h6⟩ := h
  exact ⟨h1, by rw [k 0 (by decide)]; exact h2, h3.fr (fun i a b => k i (by omega)), h4.fr hW.1.2.1 (fun i a b => k i (by omega)), fun q => (h5 q).fr (Nat.le_refl _) (fun i a b => k i (by omega)), fun i w hi hw j hj => by have := z_w8 hW hi hw; rw [k _ (by omega)]; exact h6 i w hi hw j hj⟩
/-- the last byte, both ways -/
theorem g_check {a a' N1 N2 : Nat} (h1 : jln a = N1) (h2 : jln a' = N2) (hp1 : p ≤ N1) (hp2 : p ≤ N2) (hN1 : N1 ≤ 1600) (hN2 : N2 ≤ 1600) (h : ∀ k, k < p → M.1 a k = N.1 a' k) : ∃ v, f_Sp_check a (nI p) M = some v ∧ f_Mo_checked a' (nI p) N = some v := by
  have key : ∀ j c s, c + j = p → ∃ v, ∀ m, j < m → lp_Sp_check_6 a (nI p) M m s (nI c) = some v ∧ lp_Mo_checked_6 a' (nI p) N m s (nI c) = some v := by
    intro j
    induction j with
    | zero =>
      intro c s hc
      refine ⟨s, fun m hm => ?_⟩
      obtain ⟨m, rfl⟩ : ∃ m', m = m' + 1 := ⟨m - 1, by omega⟩
      rw [lp_Sp_check_6, lp_Mo_checked_6, if_neg (nI_nlt (by omega) (by omega)), if_neg (nI_nlt (by omega) (by omega))]
      exact ⟨rfl, rfl⟩
    | succ j ih =>
      intro c s hc
      obtain ⟨v, hv⟩ := ih (c + 1) (((3 * s) + N.1 a' c) - ((3 * s) + N.1 a' c) / 251 * 251) (by omega)
      refine ⟨v, fun m hm => ?_⟩
      obtain ⟨m, rfl⟩ : ∃ m', m = m' + 1 := ⟨m - 1, by omega⟩
      rw [lp_Sp_check_6, lp_Mo_checked_6, h1, if_pos (show nI c < nI p from nI_lt (by omega) (by omega)), if_pos (show nI c < nI N1 from nI_lt (by omega) (by omega)), if_pos (show nI c < nI p from nI_lt (by omega) (by omega)), z_aI h1 (by omega) (by omega), z_aI h2 (by omega) (by omega), h c (by omega), nI_1]
      simp only [Option.bind_some]
      exact hv m (by omega)
  obtain ⟨v, hv⟩ := key p 0 149 (by omega)
  have h3 := hv jfuel (by rw [z_jf]; omega)
  rw [nI_0] at h3
  refine ⟨v, ?_, ?_⟩
  · unfold f_Sp_check; rw [h3.1]; rfl
  · unfold f_Mo_checked; rw [h3.2]; rfl
def z_sz (P : ZP) (D : Nat) : Nat := z_it (fun d s => s + (P.1 d + 1)) D 0
theorem z_sz_b (h : z_WP n P) : ∀ {D : Nat}, D ≤ n → z_sz P D ≤ 61 * D
  | 0, _ => Nat.le_refl _
  | D + 1, hD => by
    have h1 := z_sz_b h (D := D) (by omega)
    have h2 := (h D (by omega)).1
    show z_sz P D + (P.1 D + 1) ≤ _
    omega
/-- one byte of an image -/
def z_ib (P : ZP) : Nat → Nat → Nat
  | 0, _ => 0
  | D + 1, k => if k < z_sz P D then z_ib P D k else if k = z_sz P D then P.1 D else z_pa P D (k - z_sz P D)
theorem c_img (hW : z_WB A nm P) (h : z_CB o A nm P M) :
    z_ok (lp_Sp_image_4 0 jfuel 0 0 M) (fun r => r.1 = nI (z_sz P (A 0 3)) ∧ z_Fr (fun i => i ≠ 365) M r.2 ∧ ∀ k, k < z_sz P (A 0 3) → r.2.1 365 k = nI (z_ib P (A 0 3) k)) := by
  have hd8 := hW.1.2.1
  have ho := h.1
  show z_ok ((fun m c (s : Int32 × SM) => lp_Sp_image_4 0 m s.1 c s.2) jfuel (nI 0) (nI 0, M)) _
  refine z_loop (σ := Int32 × SM) (τ := Int32 × SM) (fun m c (s : Int32 × SM) => lp_Sp_image_4 0 m s.1 c s.2) (fun D r => r.1 = nI (z_sz P D) ∧ z_Fr (fun i => i ≠ 365) M r.2 ∧ ∀ k, k < z_sz P D → r.2.1 365 k = nI (z_ib P D k)) _ (A 0 3) ?_ ?_ jfuel 0 (nI 0, M) (Nat.zero_le _) (by rw [z_jf]; omega) ⟨rfl, z_Fr.rf, fun k hk => by have : z_sz P 0 = 0 := rfl; omega⟩
  · intro m D r hD hI kk
    obtain ⟨x, M'⟩ := r
    obtain ⟨i1, i2, i3⟩ := hI
    have i1 : x = nI (z_sz P D) := i1
    have i2 : z_Fr (fun i => i ≠ 365) M M' := i2
    have i3 : ∀ k, k < z_sz P D → M'.1 365 k = nI (z_ib P D k) := i3
    have hC' : z_CB o A nm P M' := h.fl hW (fun i q => i2.1 i (by omega))
    have hsz := z_sz_b hW.2.1 (D := D) (by omega)
    have hp := (hW.2.1 D hD).1
    show z_ok (lp_Sp_image_4 0 (m + 1) x (nI D) M') _
    rw [lp_Sp_image_4, hC'.2.1, hC'.2.2.1.2.2.2.1, jo_13 ho, jp_0_13, i1]
    refine z_pos (nI_lt hD (by omega)) ?_
    refine z_eq (c_size hW hC' hD) ?_
    refine z_eq (zp_365 _ (by omega)) ?_
    rw [nI_1]
    refine z_bind (P := fun r : Int32 × SM => r.1 = nI (z_sz P (D + 1)) ∧ z_Fr (fun i => i ≠ 365) M r.2 ∧ ∀ k, k < z_sz P (D + 1) → r.2.1 365 k = nI (z_ib P (D + 1) k)) ?_ (fun r hr => by rw [nI_1]; exact kk r hr)
    have esz : z_sz P (D + 1) = z_sz P D + (P.1 D + 1) := rfl
    have eib : ∀ k, z_ib P (D + 1) k = if k < z_sz P D then z_ib P D k else if k = z_sz P D then P.1 D else z_pa P D (k - z_sz P D) := fun k => rfl
    show z_ok ((fun m c (s : Int32 × SM) => lp_Sp_image_42 0 (nI D) (nI (P.1 D)) m s.1 c s.2) jfuel (nI 1) (nI (z_sz P D + 1), sI M' 365 (z_sz P D) (nI (P.1 D)))) _
    refine z_loop (σ := Int32 × SM) (τ := Int32 × SM) (fun m c (s : Int32 × SM) => lp_Sp_image_42 0 (nI D) (nI (P.1 D)) m s.1 c s.2) (fun b r => 1 ≤ b ∧ r.1 = nI (z_sz P D + b) ∧ z_Fr (fun i => i ≠ 365) M r.2 ∧ ∀ k, k < z_sz P D + b → r.2.1 365 k = nI (z_ib P (D + 1) k)) _ (P.1 D + 1) ?_ ?_ jfuel 1 _ (by omega) (by rw [z_jf]; omega) ⟨by decide, rfl, i2.sI (by omega), fun k hk => ?_⟩
    · intro m2 b r hb hI2 kk2
      obtain ⟨x2, M2⟩ := r
      obtain ⟨j0, j1, j2, j3⟩ := hI2
      have j1 : x2 = nI (z_sz P D + b) := j1
      have j2 : z_Fr (fun i => i ≠ 365) M M2 := j2
      have hC2 : z_CB o A nm P M2 := h.fl hW (fun i q => j2.1 i (by omega))
      show z_ok (lp_Sp_image_42 0 (nI D) (nI (P.1 D)) (m2 + 1) x2 (nI b) M2) _
      rw [lp_Sp_image_42, hC2.2.1, jo_13 ho, jp_0_13, j1]
      refine z_neg (nI_nlt (by omega) (by omega)) ?_
      refine z_eq (c_pact ho hd8 hW.2.1 hC2.2.2.2.1 hD (by omega)) ?_
      refine z_eq (zp_365 _ (by omega)) ?_
      rw [nI_1, nI_1]
      refine kk2 (_, _) ⟨by omega, rfl, j2.sI (by omega), fun k hk => ?_⟩
      show (sI M2 365 (z_sz P D + b) (nI (z_pa P D b))).1 365 k = _
      by_cases e : k = z_sz P D + b
      · subst e
        rw [z_sIs, eib, if_neg (by omega), if_neg (by omega), show z_sz P D + b - z_sz P D = b by omega]
      · rw [z_sIk _ _ _ _ e]; exact j3 k (by omega)
    · intro m2 r hI2
      obtain ⟨x2, M2⟩ := r
      obtain ⟨j0, j1, j2, j3⟩ := hI2
      show z_ok (lp_Sp_image_42 0 (nI D) (nI (P.1 D)) (m2 + 1) x2 (nI (P.1 D + 1)) M2) _
      rw [lp_Sp_image_42]
      exact z_pos (nI_lt (by omega) (by omega)) (z_some ⟨j1, j2, j3⟩)
    · show (sI M' 365 (z_sz P D) (nI (P.1 D))).1 365 k = _
      by_cases e : k = z_sz P D
      · subst e
        rw [z_sIs, eib, if_neg (by omega), if_pos rfl]
      · rw [z_sIk _ _ _ _ e, i3 k (by omega), eib, if_pos (by omega)]
  · intro m r hI
    obtain ⟨x, M'⟩ := r
    have i2 : z_Fr (fun i => i ≠ 365) M M' := hI.2.1
    have hC' : z_CB o A nm P M' := h.fl hW (fun i q => i2.1 i (by omega))
    show z_ok (lp_Sp_image_4 0 (m + 1) x (nI (A 0 3)) M') _
    rw [lp_Sp_image_4, hC'.2.1, hC'.2.2.1.2.2.2.1]
    exact z_neg (nI_nlt (Nat.le_refl _) (by omega)) (z_some hI)
def z_IK (N N' : SM) : Prop := z_Fr (fun i => i ≠ 366 ∧ i ≠ 429) N N' ∧ ∀ k, k ≠ 99 → N'.1 366 k = N.1 366 k
theorem z_MB.ik {N' : SM} (h : z_MB A nm P N) (k : z_IK N N') : z_MB A nm P N' :=
  ⟨h.1.fr (k.2 31 (by decide)) (fun i a b c => k.1.1 i (by omega)), h.2.1.fr (k.1.1 391 (by decide)), fun q => (h.2.2.1 q).fr (fun i a b => k.1.1 i (by omega)), ⟨(k.2 47 (by decide)).trans h.2.2.2.1.1, (k.2 48 (by decide)).trans h.2.2.2.1.2.1, (k.2 50 (by decide)).trans h.2.2.2.1.2.2⟩, fun i w hi hw => by rw [k.1.2]; exact h.2.2.2.2 i w hi hw⟩
theorem m_img (hW : z_WB A nm P) (h : z_MB A nm P N) :
    z_ok (lp_Mo_image_7 366 jfuel 0 (sI N 366 99 0)) (fun r => r.1 366 99 = nI (z_sz P (A 0 3)) ∧ z_IK N r ∧ ∀ k, k < z_sz P (A 0 3) → r.1 429 k = nI (z_ib P (A 0 3) k)) := by
  have hd8 := hW.1.2.1
  show z_ok (lp_Mo_image_7 366 jfuel (nI 0) (sI N 366 99 0)) _
  refine z_loop (fun m c s => lp_Mo_image_7 366 m c s) (fun D r => r.1 366 99 = nI (z_sz P D) ∧ z_IK N r ∧ ∀ k, k < z_sz P D → r.1 429 k = nI (z_ib P D k)) _ (A 0 3) ?_ ?_ jfuel 0 (sI N 366 99 0) (Nat.zero_le _) (by rw [z_jf]; omega) ⟨z_sIs _ _ _ _, ⟨z_Fr.rf.sI (by omega), fun k hk => z_sIk _ _ _ _ hk⟩, fun k hk => by have : z_sz P 0 = 0 := rfl; omega⟩
  · intro m D N' hD hI kk
    obtain ⟨i1, i2, i3⟩ := hI
    have hM' := h.ik i2
    have hsz := z_sz_b hW.2.1 (D := D) (by omega)
    have hp := (hW.2.1 D hD).1
    have esz : z_sz P (D + 1) = z_sz P D + (P.1 D + 1) := rfl
    have eib : ∀ k, z_ib P (D + 1) k = if k < z_sz P D then z_ib P D k else if k = z_sz P D then P.1 D else z_pa P D (k - z_sz P D) := fun k => rfl
    show z_ok (lp_Mo_image_7 366 (m + 1) (nI D) N') _
    rw [lp_Mo_image_7]
    refine z_eq (m_desks hW.1 hM'.1) ?_
    refine z_pos (nI_lt hD (by omega)) ?_
    refine z_bind (P := fun r : SM => r.1 366 99 = nI (z_sz P (D + 1)) ∧ z_IK N r ∧ ∀ k, k < z_sz P (D + 1) → r.1 429 k = nI (z_ib P (D + 1) k)) ?_ (fun r hr => by rw [nI_1]; exact kk r hr)
    show z_ok (lp_Mo_image_17 366 (nI D) jfuel (nI 0) N') _
    refine z_loop (fun m c s => lp_Mo_image_17 366 (nI D) m c s) (fun b r => r.1 366 99 = nI (z_sz P D + b) ∧ z_IK N r ∧ ∀ k, k < z_sz P D + b → r.1 429 k = nI (z_ib P (D + 1) k)) _ (P.1 D + 1) ?_ ?_ jfuel 0 N' (by omega) (by rw [z_jf]; omega) ⟨i1, i2, fun k hk => by rw [i3 k (by omega), eib, if_pos (by omega)]⟩
    · intro m2 b N2 hb hI2 kk2
      obtain ⟨j1, j2, j3⟩ := hI2
      have hM2 := h.ik j2
      show z_ok (lp_Mo_image_17 366 (nI D) (m2 + 1) (nI b) N2) _
      rw [lp_Mo_image_17]
      refine z_eq (m_bars hd8 hM2.2.1 hD) ?_
      refine z_neg (nI_nlt (by omega) (by omega)) ?_
      rw [jm_36, jm_98, zl_488, zl_61, pk_mul, nI_add, nI_add, j1]
      refine z_eq (zi_391 _ (by omega)) ?_
      refine z_eq (zs_429 _ (by omega)) ?_
      rw [z_sIa _ _ _ _ (by decide), j1, nI_1, nI_1]
      have hTD := hM2.2.1 D hD
      refine kk2 _ ⟨z_sIs _ _ _ _, ⟨(j2.1.sI (by omega)).sI (by omega), fun k hk => by rw [z_sIk _ _ _ _ hk, z_sIa _ _ _ _ (by decide)]; exact j2.2 k hk⟩, fun k hk => ?_⟩
      rw [z_sIa _ _ _ _ (by decide)]
      by_cases e : k = z_sz P D + b
      · subst e
        rw [z_sIs, eib, if_neg (by omega)]
        by_cases e2 : b = 0
        · subst e2; rw [if_pos (by omega)]; exact hTD.1
        · rw [if_neg (by omega), show z_sz P D + b - z_sz P D = b by omega, hTD.2 b (by omega) (by omega)]
          unfold z_pa
          rw [if_pos ⟨by omega, by omega⟩]
      · rw [z_sIk _ _ _ _ e]; exact j3 k (by omega)
    · intro m2 N2 hI2
      have hM2 := h.ik hI2.2.1
      show z_ok (lp_Mo_image_17 366 (nI D) (m2 + 1) (nI (P.1 D + 1)) N2) _
      rw [lp_Mo_image_17]
      refine z_eq (m_bars hd8 hM2.2.1 hD) ?_
      exact z_pos (nI_lt (by omega) (by omega)) (z_some hI2)
  · intro m N' hI
    have hM' := h.ik hI.2.1
    show z_ok (lp_Mo_image_7 366 (m + 1) (nI (A 0 3)) N') _
    rw [lp_Mo_image_7]
    refine z_eq (m_desks hW.1 hM'.1) ?_
    exact z_neg (nI_nlt (Nat.le_refl _) (by omega)) (z_some hI)
theorem g_image (hW : z_WB A nm P) (h : z_CB o A nm P M) (k : z_MB A nm P N) :
    ∃ v M' N' im, f_Sp_image 0 M = some (v, M') ∧ f_Mo_image 366 N = some (v, N') ∧ im ≤ 489 ∧ M'.1 0 14 = nI im ∧ N'.1 366 99 = nI im ∧ (∀ j, j < im → M'.1 365 j = N'.1 429 j) ∧ z_Fr (fun i => i ≠ 0 ∧ i ≠ 365) M M' ∧ (∀ j, j ≠ 14 → M'.1 0 j = M.1 0 j) ∧ z_IK N N' := by
  have hd8 := hW.1.2.1
  have hsz := z_sz_b hW.2.1 (Nat.le_refl _)
  obtain ⟨⟨x, M1⟩, ec, p1, p2, p3⟩ := c_img hW h
  obtain ⟨N1, em, u1, u2, u3⟩ := m_img hW k
  have p1 : x = _ := p1
  subst p1
  have p2 : z_Fr (fun i => i ≠ 365) M M1 := p2
  have p3 : ∀ k, k < z_sz P (A 0 3) → M1.1 365 k = nI (z_ib P (A 0 3) k) := p3
  obtain ⟨c, cc, cm⟩ := g_check (M := M1) (N := N1) (p := z_sz P (A 0 3)) jl_365 jl_429 (by omega) (by omega) (by omega) (by omega) (fun j hj => by rw [p3 j hj, u3 j hj])
  refine ⟨nI (z_sz P (A 0 3) + 1), sI (sI M1 365 (z_sz P (A 0 3)) c) 0 14 (nI (z_sz P (A 0 3) + 1)), sI (sI N1 429 (z_sz P (A 0 3)) c) 366 99 (nI (z_sz P (A 0 3) + 1)), z_sz P (A 0 3) + 1, ?_, ?_, by omega, z_sIs _ _ _ _, z_sIs _ _ _ _, fun j hj => ?_, (p2.wk (fun i q => q.2)).sI (by omega) |> fun q => q.sI (by omega), fun j hj => ?_, ⟨(u2.1.sI (by omega)).sI (by omega), fun j hj => ?_⟩⟩
  · unfold f_Sp_image
    rw [ec]
    simp only [Option.bind_some]
    rw [jp_0_13, cc]
    simp only [Option.bind_some]
    rw [zp_365 _ (by omega), nI_1]
    simp only [Option.bind_some]
    rw [z_sIs]
  · unfold f_Mo_image
    rw [em]
    simp only [Option.bind_some]
    rw [jm_98, u1, cm]
    simp only [Option.bind_some]
    rw [zs_429 _ (by omega)]
    simp only [Option.bind_some]
    rw [z_sIa N1 429 _ _ (b := 366) (by decide), u1, nI_1, z_sIs]
  · rw [z_sIa _ 0 _ _ (b := 365) (by decide), z_sIa _ 366 _ _ (b := 429) (by decide)]
    by_cases e : j = z_sz P (A 0 3)
    · subst e; rw [z_sIs, z_sIs]
    · rw [z_sIk _ _ _ _ e, z_sIk _ _ _ _ e, p3 j (by omega), u3 j (by omega)]
  · rw [z_sIk _ _ _ _ hj, z_sIa _ _ _ _ (by decide), p2.1 0 (by decide)]
  · rw [z_sIk _ _ _ _ hj, z_sIa _ _ _ _ (by decide)]; exact u2.2 j hj
theorem g_octet {im : Nat} (him : im ≤ 489) (h1 : M.1 0 14 = nI im) (k1 : N.1 366 99 = nI im) (h2 : ∀ j, j < im → M.1 365 j = N.1 429 j) (x : Int32) : ∃ v, f_Sp_octet 0 x M = some v ∧ f_Mo_octet 366 x N = some v := by
  unfold f_Sp_octet f_Mo_octet
  rw [h1, k1, jp_0_13, jm_98]
  by_cases c1 : x < 0
  · rw [if_pos c1, if_pos c1]; exact ⟨_, rfl, rfl⟩
  rw [if_neg c1, if_neg c1]
  by_cases c2 : x < nI im
  · rw [if_pos c2, if_pos c2]
    obtain ⟨j, hj, rfl⟩ := z_q_of (n := im) (by omega) ⟨c1, c2⟩
    rw [za_365 _ (by omega), zi_429 _ (by omega), h2 j hj]
    exact ⟨_, rfl, rfl⟩
  · rw [if_neg c2, if_neg c2]; exact ⟨_, rfl, rfl⟩
/-! on -/
def z_po (T : Nat → Nat) : Nat → Nat
  | 0 => 0
  | d + 1 => z_po T d + (T (z_po T d) + 1)
/-- such a tape: D PARTS, then one byte -/
def z_st (T : Nat → Nat) (n D : Nat) : Prop := (∀ d, d < D → T (z_po T d) ≤ 60 ∧ ∀ k, 1 ≤ k → k ≤ T (z_po T d) → T (z_po T d + k) ≤ 3) ∧ n = z_po T D + 1
theorem z_po_m {T : Nat → Nat} : ∀ j d, z_po T d + j ≤ z_po T (d + j)
  | 0, d => Nat.le_refl _
  | j + 1, d => by
    have := z_po_m (T := T) j d
    show _ ≤ z_po T (d + j) + (T (z_po T (d + j)) + 1)
    omega
theorem z_po_s {T : Nat → Nat} {d D : Nat} (h : d < D) : z_po T d + (T (z_po T d) + 1) ≤ z_po T D := by
  have := z_po_m (T := T) (D - (d + 1)) (d + 1)
  rw [show d + 1 + (D - (d + 1)) = D by omega] at this
  have e : z_po T (d + 1) = z_po T d + (T (z_po T d) + 1) := rfl
  omega
theorem c_isImg (hW : z_WB A nm P) (hC : z_CB o A nm P M) (hw : z_wt n T) (h : z_tc n T M) {c : Int32} (hc : z_st T n (A 0 3) → f_Sp_check 2 (nI (n - 1)) M = some c) :
    ∃ v, f_Sp_isImage 0 M = some v ∧ ((v = 1 ∧ z_st T n (A 0 3) ∧ nI (T (n - 1)) = c) ∨ (v = 0 ∧ ¬ (z_st T n (A 0 3) ∧ nI (T (n - 1)) = c))) := by
  have hd8 := hW.1.2.1
  have hn := hw.1
  unfold f_Sp_isImage
  -- the PARTS
  have loop : z_ok (lp_Sp_isImage_4 0 M jfuel 0 0) (fun t => match t with
      | .inl x => x = nI (z_po T (A 0 3)) ∧ z_po T (A 0 3) ≤ n ∧ (∀ d, d < A 0 3 → T (z_po T d) ≤ 60 ∧ ∀ k, 1 ≤ k → k ≤ T (z_po T d) → T (z_po T d + k) ≤ 3)
      | .inr v => v = 0 ∧ ¬ z_st T n (A 0 3)) := by
    show z_ok ((fun m c (s : Int32) => lp_Sp_isImage_4 0 M m s c) jfuel (nI 0) (nI 0)) _
    refine z_loop (σ := Int32) (τ := Int32 ⊕ Int32) (fun m c (s : Int32) => lp_Sp_isImage_4 0 M m s c) (fun D x => x = nI (z_po T D) ∧ z_po T D ≤ n ∧ (∀ d, d < D → T (z_po T d) ≤ 60 ∧ ∀ k, 1 ≤ k → k ≤ T (z_po T d) → T (z_po T d + k) ≤ 3)) _ (A 0 3) ?_ ?_ jfuel 0 (nI 0) (Nat.zero_le _) (by rw [z_jf]; omega) ⟨rfl, Nat.zero_le _, fun d hd => by omega⟩
    · intro m D x hD hI kk
      obtain ⟨i1, i2, i3⟩ := hI
      show z_ok (lp_Sp_isImage_4 0 M (m + 1) x (nI D)) _
      rw [lp_Sp_isImage_4, hC.2.1, hC.2.2.1.2.2.2.1, jp_0_0, i1]
      refine z_pos (nI_lt hD (by omega)) ?_
      refine z_eq (c_read hw h (by omega)) ?_
      have epo : z_po T (D + 1) = z_po T D + (T (z_po T D) + 1) := rfl
      by_cases q : z_po T D < n
      · have hb := hw.2 _ q
        rw [if_pos q]
        refine z_neg (nI_pos (by omega)) ?_
        rw [show (60 : Int32) = nI 60 from rfl]
        refine z_lt _ _ rfl rfl (by decide) (by omega) (fun c1 => z_some ⟨rfl, fun hs => by have := (hs.1 D hD).1; omega⟩) (fun c1 => ?_)
        refine z_jsb (P := fun t => (t = .inl () ∧ z_po T D + T (z_po T D) < n ∧ ∀ k, 1 ≤ k → k ≤ T (z_po T D) → T (z_po T D + k) ≤ 3) ∨ (t = .inr 0 ∧ ¬ z_st T n (A 0 3))) ?_ (fun e he => ?_) (fun r hr => ?_)
        · show z_ok (lp_Sp_isImage_39 0 (nI (z_po T D)) (nI (T (z_po T D))) M jfuel (nI 1)) _
          refine z_loop0 (fun m c => lp_Sp_isImage_39 0 (nI (z_po T D)) (nI (T (z_po T D))) M m c) (fun b => 1 ≤ b ∧ z_po T D + (b - 1) < n ∧ ∀ k, 1 ≤ k → k < b → T (z_po T D + k) ≤ 3) _ (T (z_po T D) + 1) ?_ ?_ jfuel 1 (by omega) (by rw [z_jf]; omega) ⟨by decide, q, fun k k1 k2 => by omega⟩
          · intro m2 b hb2 hI2 kk2
            obtain ⟨j1, j2, j3⟩ := hI2
            show z_ok (lp_Sp_isImage_39 0 (nI (z_po T D)) (nI (T (z_po T D))) M (m2 + 1) (nI b)) _
            rw [lp_Sp_isImage_39, jp_0_0, nI_add]
            refine z_neg (nI_nlt (by omega) (by omega)) ?_
            refine z_eq (c_read hw h (by omega)) ?_
            by_cases q2 : z_po T D + b < n
            · have hb3 := hw.2 _ q2
              rw [if_pos q2]
              refine z_neg (nI_pos (by omega)) ?_
              rw [show (3 : Int32) = nI 3 from rfl]
              refine z_lt _ _ rfl rfl (by decide) (by omega) (fun c2 => z_some (Or.inr ⟨rfl, fun hs => by have := (hs.1 D hD).2 b j1 (by omega); omega⟩)) (fun c2 => ?_)
              rw [nI_1]
              refine kk2 ⟨by omega, by rw [show b + 1 - 1 = b from rfl]; exact q2, fun k k1 k2 => ?_⟩
              by_cases e : k = b
              · subst e; exact c2
              · exact j3 k k1 (by omega)
            · rw [if_neg q2]
              refine z_pos (by decide) (z_some (Or.inr ⟨rfl, fun hs => ?_⟩))
              have := z_po_s (T := T) hD
              have := hs.2
              omega
          · intro m2 hI2
            show z_ok (lp_Sp_isImage_39 0 (nI (z_po T D)) (nI (T (z_po T D))) M (m2 + 1) (nI (T (z_po T D) + 1))) _
            rw [lp_Sp_isImage_39]
            exact z_pos (nI_lt (by omega) (by omega)) (z_some (Or.inl ⟨rfl, hI2.2.1, fun k k1 k2 => hI2.2.2 k k1 (by omega)⟩))
        · rcases he with ⟨_, h1, h2⟩ | ⟨he, _⟩
          · rw [nI_1, nI_1, nI_add]
            refine kk _ ⟨rfl, by omega, fun d hd => ?_⟩
            by_cases e : d = D
            · subst e; exact ⟨c1, h2⟩
            · exact i3 d (by omega)
          · cases he
        · rcases hr with ⟨hr, _⟩ | ⟨hr, h2⟩
          · cases hr
          · exact ⟨(Sum.inr.inj hr), h2⟩
      · rw [if_neg q]
        refine z_pos (by decide) (z_some ⟨rfl, fun hs => ?_⟩)
        have := z_po_s (T := T) hD
        have := hs.2
        omega
    · intro m x hI
      show z_ok (lp_Sp_isImage_4 0 M (m + 1) x (nI (A 0 3))) _
      rw [lp_Sp_isImage_4, hC.2.1, hC.2.2.1.2.2.2.1]
      exact z_neg (nI_nlt (Nat.le_refl _) (by omega)) (z_some hI)
  obtain ⟨t, et, pt⟩ := loop
  rw [et]
  cases t with
  | inl x =>
    obtain ⟨i1, i2, i3⟩ := pt
    have i1 : x = _ := i1
    subst i1
    show ∃ v, (if M.1 (jpf 0 0) 1 = nI (z_po T (A 0 3)) + 1 then _ else _) = some v ∧ _
    rw [jp_0_0, h.1, nI_1]
    by_cases q : n = z_po T (A 0 3) + 1
    · have hs : z_st T n (A 0 3) := ⟨i3, q⟩
      have e1 : z_po T (A 0 3) = n - 1 := by omega
      rw [if_pos (by rw [← q]), e1, c_read hw h (by omega), if_pos (by omega), jp_1_0, hc hs]
      simp only [Option.bind_some]
      by_cases w : nI (T (n - 1)) = c
      · rw [if_pos w]; exact ⟨1, rfl, Or.inl ⟨rfl, hs, w⟩⟩
      · rw [if_neg w]; exact ⟨0, rfl, Or.inr ⟨rfl, fun t => w t.2⟩⟩
    · rw [if_neg (fun w => q ((nI_eq (by omega) (by omega)).mp w))]
      exact ⟨0, rfl, Or.inr ⟨rfl, fun t => q t.1.2⟩⟩
  | inr v =>
    obtain ⟨i1, i2⟩ := pt
    have i1 : v = 0 := i1
    subst i1
    exact ⟨0, rfl, Or.inr ⟨rfl, fun t => i2 t.1⟩⟩
theorem m_isTold (hW : z_WB A nm P) (hM : z_MB A nm P N) (h0 : 0 < A 0 0) (hw : z_wt n T) (h : ∀ k, k < n → N.1 367 k = nI (T k)) {c : Int32} (hc : 1 ≤ n → f_Mo_checked 367 (nI (n - 1)) N = some c) :
    ∃ v, f_Mo_isTold 366 (nI n) N = some v ∧ ((v = 1 ∧ z_st T n (A 0 3) ∧ nI (T (n - 1)) = c) ∨ (v = 0 ∧ ¬ (z_st T n (A 0 3) ∧ nI (T (n - 1)) = c))) := by
  have hd8 := hW.1.2.1
  have hc0 := hW.1.1
  have hn := hw.1
  unfold f_Mo_isTold
  rw [hM.1.1, if_neg (nI_ne0 h0 (by omega)), show (1 : Int32) = nI 1 from rfl]
  by_cases n0 : n < 1
  · rw [if_pos (nI_lt n0 (by decide))]
    exact ⟨0, rfl, Or.inr ⟨rfl, fun t => by have := t.1.2; omega⟩⟩
  rw [if_neg (nI_nlt (by omega) (by omega)), z_sub (by omega), jm_0, zi_367 _ (by omega), h _ (by omega), hc (by omega)]
  simp only [Option.bind_some]
  by_cases w : nI (T (n - 1)) = c
  · rw [if_pos w]
    have loop : z_ok (lp_Mo_isTold_39 366 (nI n) N jfuel 0 0) (fun t => match t with
        | .inl x => x = nI (z_po T (A 0 3)) ∧ z_po T (A 0 3) ≤ n - 1 ∧ (∀ d, d < A 0 3 → T (z_po T d) ≤ 60 ∧ ∀ k, 1 ≤ k → k ≤ T (z_po T d) → T (z_po T d + k) ≤ 3)
        | .inr v => v = 0 ∧ ¬ z_st T n (A 0 3)) := by
      show z_ok ((fun m c (s : Int32) => lp_Mo_isTold_39 366 (nI n) N m s c) jfuel (nI 0) (nI 0)) _
      refine z_loop (σ := Int32) (τ := Int32 ⊕ Int32) (fun m c (s : Int32) => lp_Mo_isTold_39 366 (nI n) N m s c) (fun D x => x = nI (z_po T D) ∧ z_po T D ≤ n - 1 ∧ (∀ d, d < D → T (z_po T d) ≤ 60 ∧ ∀ k, 1 ≤ k → k ≤ T (z_po T d) → T (z_po T d + k) ≤ 3)) _ (A 0 3) ?_ ?_ jfuel 0 (nI 0) (Nat.zero_le _) (by rw [z_jf]; omega) ⟨rfl, Nat.zero_le _, fun d hd => by omega⟩
      · intro m D x hD hI kk
        obtain ⟨i1, i2, i3⟩ := hI
        have epo : z_po T (D + 1) = z_po T D + (T (z_po T D) + 1) := rfl
        show z_ok (lp_Mo_isTold_39 366 (nI n) N (m + 1) x (nI D)) _
        rw [lp_Mo_isTold_39, i1, jm_0, show (1 : Int32) = nI 1 from rfl, z_sub (by omega)]
        refine z_eq (m_desks hW.1 hM.1) ?_
        refine z_pos (nI_lt hD (by omega)) ?_
        refine z_lt _ _ rfl rfl (by omega) (by omega) (fun q => ?_) (fun q => z_some ⟨rfl, fun hs => by have := z_po_s (T := T) hD; have := hs.2; omega⟩)
        have hb := hw.2 (z_po T D) (by omega)
        refine z_eq (zi_367 _ (by omega)) ?_
        rw [h _ (by omega), show (60 : Int32) = nI 60 from rfl]
        refine z_lt _ _ rfl rfl (by decide) (by omega) (fun c1 => z_some ⟨rfl, fun hs => by have := (hs.1 D hD).1; omega⟩) (fun c1 => ?_)
        refine z_eq (zi_367 _ (by omega)) ?_
        rw [h _ (by omega), nI_add, nI_add]
        refine z_lt _ _ rfl rfl (by omega) (by omega) (fun c2 => z_some ⟨rfl, fun hs => by have := z_po_s (T := T) hD; have := hs.2; omega⟩) (fun c2 => ?_)
        refine z_jsb (P := fun t => (t = .inl () ∧ ∀ k, 1 ≤ k → k ≤ T (z_po T D) → T (z_po T D + k) ≤ 3) ∨ (t = .inr 0 ∧ ¬ z_st T n (A 0 3))) ?_ (fun e he => ?_) (fun r hr => ?_)
        · refine z_loop0 (fun m c => lp_Mo_isTold_86 366 (nI (z_po T D)) N m c) (fun b => 1 ≤ b ∧ ∀ k, 1 ≤ k → k < b → T (z_po T D + k) ≤ 3) _ (T (z_po T D) + 1) ?_ ?_ jfuel 1 (by omega) (by rw [z_jf]; omega) ⟨by decide, fun k k1 k2 => by omega⟩
          · intro m2 b hb2 hI2 kk2
            obtain ⟨j1, j3⟩ := hI2
            show z_ok (lp_Mo_isTold_86 366 (nI (z_po T D)) N (m2 + 1) (nI b)) _
            rw [lp_Mo_isTold_86, jm_0, nI_add]
            refine z_eq (zi_367 _ (by omega)) ?_
            rw [h _ (by omega)]
            refine z_neg (nI_nlt (by omega) (by omega)) ?_
            refine z_eq (zi_367 _ (by omega)) ?_
            have hb3 := hw.2 (z_po T D + b) (by omega)
            rw [h _ (by omega), show (3 : Int32) = nI 3 from rfl]
            refine z_lt _ _ rfl rfl (by decide) (by omega) (fun c2 => z_some (Or.inr ⟨rfl, fun hs => by have := (hs.1 D hD).2 b j1 (by omega); omega⟩)) (fun c2 => ?_)
            rw [nI_1]
            refine kk2 ⟨by omega, fun k k1 k2 => ?_⟩
            by_cases e : k = b
            · subst e; exact c2
            · exact j3 k k1 (by omega)
          · intro m2 hI2
            show z_ok (lp_Mo_isTold_86 366 (nI (z_po T D)) N (m2 + 1) (nI (T (z_po T D) + 1))) _
            rw [lp_Mo_isTold_86, jm_0]
            refine z_eq (zi_367 _ (by omega)) ?_
            rw [h _ (by omega)]
            exact z_pos (nI_lt (by omega) (by omega)) (z_some (Or.inl ⟨rfl, fun k k1 k2 => hI2.2 k k1 (by omega)⟩))
        · rcases he with ⟨_, h2⟩ | ⟨he, _⟩
          · refine z_eq (zi_367 _ (by omega)) ?_
            rw [h _ (by omega), nI_add, nI_add, nI_add]
            refine kk _ ⟨by congr 1; omega, by omega, fun d hd => ?_⟩
            by_cases e : d = D
            · subst e; exact ⟨c1, h2⟩
            · exact i3 d (by omega)
          · cases he
        · rcases hr with ⟨hr, _⟩ | ⟨hr, h2⟩
          · cases hr
          · exact ⟨(Sum.inr.inj hr), h2⟩
      · intro m x hI
        show z_ok (lp_Mo_isTold_39 366 (nI n) N (m + 1) x (nI (A 0 3))) _
        rw [lp_Mo_isTold_39]
        refine z_eq (m_desks hW.1 hM.1) ?_
        exact z_neg (nI_nlt (Nat.le_refl _) (by omega)) (z_some hI)
    obtain ⟨t, et, pt⟩ := loop
    rw [et]
    cases t with
    | inl x =>
      obtain ⟨i1, i2, i3⟩ := pt
      have i1 : x = _ := i1
      subst i1
      show ∃ v, (if nI (z_po T (A 0 3)) = nI (n - 1) then _ else _) = some v ∧ _
      by_cases q : n = z_po T (A 0 3) + 1
      · rw [if_pos (by congr 1; omega)]
        exact ⟨1, rfl, Or.inl ⟨rfl, ⟨i3, q⟩, w⟩⟩
      · rw [if_neg (fun r => q (by have := (nI_eq (by omega) (by omega)).mp r; omega))]
        exact ⟨0, rfl, Or.inr ⟨rfl, fun t => q t.1.2⟩⟩
    | inr v =>
      obtain ⟨i1, i2⟩ := pt
      have i1 : v = 0 := i1
      subst i1
      exact ⟨0, rfl, Or.inr ⟨rfl, fun t => i2 t.1⟩⟩
  · rw [if_neg w]
    exact ⟨0, rfl, Or.inr ⟨rfl, fun t => w t.2⟩⟩
def z_ip (T : Nat → Nat) : ZP := (fun d => T (z_po T d), fun d b => T (z_po T d + b))
theorem c_takeImg (hW : z_WB A nm P) (hC : z_CB o A nm P M) (hw : z_wt n T) (h : z_tc n T M) (hs : z_st T n (A 0 3)) :
    z_ok (f_Sp_takeImage 0 M) (fun M' => z_TC o (A 0 3) (z_ip T) M' ∧ z_Fr (fun i => i < o + 41 ∨ o + 49 < i) M M') := by
  have hd8 := hW.1.2.1
  have hn := hw.1
  have ho := hC.1
  unfold f_Sp_takeImage
  refine z_bind (P := fun M' => z_TC o (A 0 3) (z_ip T) M' ∧ z_Fr (fun i => i < o + 41 ∨ o + 49 < i) M M') ?_ (fun M' h => z_some h)
  show z_ok ((fun m c (s : Int32 × SM) => lp_Sp_takeImage_4 0 m s.1 c s.2) jfuel (nI 0) (nI 0, M)) _
  refine z_loop (σ := Int32 × SM) (τ := SM) (fun m c (s : Int32 × SM) => lp_Sp_takeImage_4 0 m s.1 c s.2) (fun D r => r.1 = nI (z_po T D) ∧ z_TC o D (z_ip T) r.2 ∧ z_Fr (fun i => i < o + 41 ∨ o + 49 < i) M r.2) _ (A 0 3) ?_ ?_ jfuel 0 (nI 0, M) (Nat.zero_le _) (by rw [z_jf]; omega) ⟨rfl, fun d hd => by omega, z_Fr.rf⟩
  · intro m D r hD hI kk
    obtain ⟨x, M'⟩ := r
    obtain ⟨i1, i2, i3⟩ := hI
    have i1 : x = nI (z_po T D) := i1
    have i2 : z_TC o D (z_ip T) M' := i2
    have i3 : z_Fr (fun i => i < o + 41 ∨ o + 49 < i) M M' := i3
    have hpo := z_po_s (T := T) hD
    have hn2 := hs.2
    have h60 := (hs.1 D hD).1
    have ht : z_tc n T M' := ⟨by rw [i3.1 1 (by omega)]; exact h.1, fun k hk => by rw [i3.1 2 (by omega)]; exact h.2 k hk⟩
    show z_ok (lp_Sp_takeImage_4 0 (m + 1) x (nI D) M') _
    rw [lp_Sp_takeImage_4, i1, i3.1 0 (by omega), hC.2.1, i3.1 o (by omega), hC.2.2.1.2.2.2.1, jp_0_0]
    refine z_pos (nI_lt hD (by omega)) ?_
    refine z_eq (c_read hw ht (by omega)) ?_
    rw [if_pos (by omega)]
    refine z_bind (P := fun M2 => z_Fr (fun i => i ≠ o + 41 + D) M' M2 ∧ ∀ b, 1 ≤ b → b ≤ T (z_po T D) → M2.1 (o + 41 + D) (b - 1) = nI (T (z_po T D + b))) ?_ (fun M2 h2 => ?_)
    · refine z_loop (fun m c s => lp_Sp_takeImage_27 0 (nI (z_po T D)) (nI D) (nI (T (z_po T D))) m c s) (fun b M2 => 1 ≤ b ∧ z_Fr (fun i => i ≠ o + 41 + D) M' M2 ∧ ∀ k, 1 ≤ k → k < b → M2.1 (o + 41 + D) (k - 1) = nI (T (z_po T D + k))) _ (T (z_po T D) + 1) ?_ ?_ jfuel 1 M' (by omega) (by rw [z_jf]; omega) ⟨by decide, z_Fr.rf, fun k k1 k2 => by omega⟩
      · intro m2 b M2 hb hI2 kk2
        obtain ⟨j1, j2, j3⟩ := hI2
        have ht2 : z_tc n T M2 := ⟨by rw [j2.1 1 (by omega)]; exact ht.1, fun k hk => by rw [j2.1 2 (by omega)]; exact ht.2 k hk⟩
        show z_ok (lp_Sp_takeImage_27 0 (nI (z_po T D)) (nI D) (nI (T (z_po T D))) (m2 + 1) (nI b) M2) _
        rw [lp_Sp_takeImage_27, nI_add, jp_0_0, j2.1 0 (by omega), i3.1 0 (by omega), hC.2.1, jo_13 ho]
        refine z_neg (nI_nlt (by omega) (by omega)) ?_
        refine z_eq (c_read hw ht2 (by omega)) ?_
        rw [if_pos (by omega)]
        refine z_eq (c_setAct ho (by omega) j1 (by omega)) ?_
        rw [nI_1]
        refine kk2 _ ⟨by omega, j2.sI (by omega), fun k k1 k2 => ?_⟩
        by_cases e : k = b
        · subst e; rw [z_sIs]
        · rw [z_sIk _ _ _ _ (by omega)]; exact j3 k k1 (by omega)
      · intro m2 M2 hI2
        show z_ok (lp_Sp_takeImage_27 0 (nI (z_po T D)) (nI D) (nI (T (z_po T D))) (m2 + 1) (nI (T (z_po T D) + 1)) M2) _
        rw [lp_Sp_takeImage_27]
        exact z_pos (nI_lt (by omega) (by omega)) (z_some ⟨hI2.2.1, fun b b1 b2 => hI2.2.2 b b1 (by omega)⟩)
    · obtain ⟨F2, R2⟩ := h2
      rw [F2.1 0 (by omega), i3.1 0 (by omega), hC.2.1, jo_13 ho]
      refine z_eq (c_setSize ho (by omega)) ?_
      rw [nI_1, nI_1, nI_add]
      have g : z_TC o (D + 1) (z_ip T) (sI M2 (o + 49) D (nI (T (z_po T D)))) := by
        intro d hd
        by_cases e : d = D
        · subst e
          refine ⟨z_sIs _ _ _ _, fun b hb => ?_⟩
          have hb : b < T (z_po T d) := hb
          rw [z_sIa _ _ _ _ (by omega)]
          exact R2 (b + 1) (by omega) (by omega)
        · have hTd := i2 d (by omega)
          refine ⟨?_, fun b hb => ?_⟩
          · rw [z_sIk _ _ _ _ e, F2.1 _ (by omega)]; exact hTd.1
          · rw [z_sIa _ _ _ _ (by omega), F2.1 _ (by omega)]; exact hTd.2 b hb
      exact kk (nI (z_po T D + (T (z_po T D) + 1)), sI M2 (o + 49) D (nI (T (z_po T D)))) ⟨rfl, g, (i3.tr (F2.wk (fun i q => by omega))).sI (by omega)⟩
  · intro m r hI
    obtain ⟨x, M'⟩ := r
    obtain ⟨i1, i2, i3⟩ := hI
    have i3 : z_Fr (fun i => i < o + 41 ∨ o + 49 < i) M M' := i3
    show z_ok (lp_Sp_takeImage_4 0 (m + 1) x (nI (A 0 3)) M') _
    rw [lp_Sp_takeImage_4, i3.1 0 (by omega), hC.2.1, i3.1 o (by omega), hC.2.2.1.2.2.2.1]
    exact z_neg (nI_nlt (Nat.le_refl _) (by omega)) (z_some ⟨i2, i3⟩)
theorem m_takeImg (hW : z_WB A nm P) (hM : z_MB A nm P N) (hw : z_wt n T) (h : ∀ k, k < n → N.1 367 k = nI (T k)) (hs : z_st T n (A 0 3)) :
    z_ok (lp_Mo_on_24 366 jfuel 0 0 N) (fun N' => z_TR (A 0 3) (z_ip T) N' ∧ z_Fr (fun i => i ≠ 391) N N') := by
  have hd8 := hW.1.2.1
  have hn := hw.1
  show z_ok ((fun m c (s : Int32 × SM) => lp_Mo_on_24 366 m s.1 c s.2) jfuel (nI 0) (nI 0, N)) _
  refine z_loop (σ := Int32 × SM) (τ := SM) (fun m c (s : Int32 × SM) => lp_Mo_on_24 366 m s.1 c s.2) (fun D r => r.1 = nI (z_po T D) ∧ z_TR D (z_ip T) r.2 ∧ z_Fr (fun i => i ≠ 391) N r.2) _ (A 0 3) ?_ ?_ jfuel 0 (nI 0, N) (Nat.zero_le _) (by rw [z_jf]; omega) ⟨rfl, fun d hd => by omega, z_Fr.rf⟩
  · intro m D r hD hI kk
    obtain ⟨x, N'⟩ := r
    obtain ⟨i1, i2, i3⟩ := hI
    have i1 : x = nI (z_po T D) := i1
    have i2 : z_TR D (z_ip T) N' := i2
    have i3 : z_Fr (fun i => i ≠ 391) N N' := i3
    have hpo := z_po_s (T := T) hD
    have hn2 := hs.2
    have h60 := (hs.1 D hD).1
    have hO' : z_OR A N' := hM.1.fr (by rw [i3.1 366 (by decide)]) (fun i a b c => i3.1 i c)
    show z_ok (lp_Mo_on_24 366 (m + 1) x (nI D) N') _
    rw [lp_Mo_on_24, i1, jm_0]
    refine z_eq (m_desks hW.1 hO') ?_
    refine z_pos (nI_lt hD (by omega)) ?_
    refine z_eq (zi_367 _ (by omega)) ?_
    rw [i3.1 367 (by decide), h _ (by omega)]
    refine z_bind (P := fun N2 => z_Fr (fun i => i ≠ 391) N' N2 ∧ (∀ b, b ≤ T (z_po T D) → N2.1 391 (488 + 61 * D + b) = nI (T (z_po T D + b))) ∧ ∀ j, j < 488 + 61 * D → N2.1 391 j = N'.1 391 j) ?_ (fun N2 h2 => ?_)
    · show z_ok (lp_Mo_on_43 366 (nI (z_po T D)) (nI D) (nI (T (z_po T D))) jfuel (nI 0) N') _
      refine z_loop (fun m c s => lp_Mo_on_43 366 (nI (z_po T D)) (nI D) (nI (T (z_po T D))) m c s) (fun b N2 => z_Fr (fun i => i ≠ 391) N' N2 ∧ (∀ k, k < b → N2.1 391 (488 + 61 * D + k) = nI (T (z_po T D + k))) ∧ ∀ j, j < 488 + 61 * D → N2.1 391 j = N'.1 391 j) _ (T (z_po T D) + 1) ?_ ?_ jfuel 0 N' (by omega) (by rw [z_jf]; omega) ⟨z_Fr.rf, fun k k1 => by omega, fun j _ => rfl⟩
      · intro m2 b N2 hb hI2 kk2
        obtain ⟨j2, j3, j4⟩ := hI2
        show z_ok (lp_Mo_on_43 366 (nI (z_po T D)) (nI D) (nI (T (z_po T D))) (m2 + 1) (nI b) N2) _
        rw [lp_Mo_on_43, nI_add, jm_0, jm_36, zl_488, zl_61, pk_mul, nI_add, nI_add]
        refine z_neg (nI_nlt (by omega) (by omega)) ?_
        refine z_eq (zi_367 _ (by omega)) ?_
        rw [j2.1 367 (by decide), i3.1 367 (by decide), h _ (by omega)]
        refine z_eq (zs_391 _ (by omega)) ?_
        rw [nI_1]
        refine kk2 _ ⟨j2.sI (by omega), fun k k1 => ?_, fun j hj => ?_⟩
        · by_cases e : k = b
          · subst e; rw [z_sIs]
          · rw [z_sIk _ _ _ _ (by omega)]; exact j3 k (by omega)
        · rw [z_sIk _ _ _ _ (by omega)]; exact j4 j hj
      · intro m2 N2 hI2
        show z_ok (lp_Mo_on_43 366 (nI (z_po T D)) (nI D) (nI (T (z_po T D))) (m2 + 1) (nI (T (z_po T D) + 1)) N2) _
        rw [lp_Mo_on_43]
        exact z_pos (nI_lt (by omega) (by omega)) (z_some ⟨hI2.1, fun b b1 => hI2.2.1 b (by omega), hI2.2.2⟩)
    · obtain ⟨F2, R2, R3⟩ := h2
      rw [nI_1, show (1 : Int32) = nI 1 from rfl, nI_add, nI_add]
      refine kk (_, _) ⟨by show nI _ = nI _; congr 1; show _ = z_po T D + (T (z_po T D) + 1); omega, fun d hd => ?_, i3.tr F2⟩
      by_cases e : d = D
      · subst e
        exact ⟨R2 0 (Nat.zero_le _), fun b b1 b2 => R2 b b2⟩
      · have hTd := i2 d (by omega)
        have h60d := (hs.1 d (by omega)).1
        refine ⟨?_, fun b b1 b2 => ?_⟩
        · rw [R3 _ (by omega)]; exact hTd.1
        · have b2' : b ≤ T (z_po T d) := b2
          rw [R3 _ (by omega)]; exact hTd.2 b b1 b2
  · intro m r hI
    obtain ⟨x, N'⟩ := r
    obtain ⟨i1, i2, i3⟩ := hI
    have i3 : z_Fr (fun i => i ≠ 391) N N' := i3
    have hO' : z_OR A N' := hM.1.fr (by rw [i3.1 366 (by decide)]) (fun i a b c => i3.1 i c)
    show z_ok (lp_Mo_on_24 366 (m + 1) x (nI (A 0 3)) N') _
    rw [lp_Mo_on_24]
    refine z_eq (m_desks hW.1 hO') ?_
    exact z_neg (nI_nlt (Nat.le_refl _) (by omega)) (z_some ⟨i2, i3⟩)
theorem z_AKt {M M' : SM} (k : Nat) (v : Int32) (h : z_Fr (fun i => i ≠ 1 ∧ (i < 7 ∨ 321 < i)) M M') : z_Fr (fun i => i ≠ 1 ∧ (i < 7 ∨ 321 < i)) M (sI M' 1 k v) := h.sI (by omega)
theorem g_on {G : Nat → ZP} {hn : Nat} (hK : z_K o A nm P G hn M N) (hw : z_wt n T) (h : z_tc n T M) (k : z_tm n T N) :
    ∃ v M' N' P' G' hn', f_Sp_on 0 M = some (v, M') ∧ f_Mo_on 366 N = some (v, N') ∧ z_K o A nm P' G' hn' M' N' ∧ z_tc 0 T M' ∧ z_tm 0 T N' ∧ z_Fr (fun i => i ≠ 1 ∧ (i < 7 ∨ 321 < i)) M M' ∧ z_Fr (fun i => i ≠ 366 ∧ i ≠ 391 ∧ (i < 399 ∨ 404 < i)) N N' ∧ (∀ k, k ≠ 1 → (k < 54 ∨ (58 < k ∧ k ≠ 63 ∧ k ≠ 64)) → N'.1 366 k = N.1 366 k) := by
  obtain ⟨hW, hC, hM, hG0, hGW, hHC, hHR⟩ := hK
  have hd8 := hW.1.2.1
  have hc0 := hW.1.1
  have hn := hw.1
  -- no river, or no image
  have hN1 : z_MB A nm P (sI N 366 1 0) := ⟨hM.1.fr (z_sIk _ _ _ _ (by decide)) (fun i a b c => z_sIa _ _ _ _ (by omega)), hM.2.1.fr (z_sIa _ _ _ _ (by decide)), fun q => (hM.2.2.1 q).fr (fun i a b => z_sIa _ _ _ _ (by omega)), hM.2.2.2.1, fun i w hi hw => hM.2.2.2.2 i w hi hw⟩
  have hM1 : z_CB o A nm P (sI M 1 1 0) := by
    obtain ⟨h1, h2, h3, h4, h5, h6⟩ := hC
    exact ⟨h1, h2, h3.fr (fun i a b => z_sIa _ _ _ _ (by omega)), h4.fr hd8 (fun i a b => z_sIa _ _ _ _ (by omega)), fun q => (h5 q).fr (Nat.le_refl _) (fun i a b => z_sIa _ _ _ _ (by omega)), fun i w hi hw j hj => by rw [z_sIa _ _ _ _ (by omega)]; exact h6 i w hi hw j hj⟩
  have no : ∀ (e1 : f_Sp_on 0 M = some (0, sI M 1 1 0)) (e2 : f_Mo_on 366 N = some (0, sI N 366 1 0)), ∃ v M' N' P' G' hn', f_Sp_on 0 M = some (v, M') ∧ f_Mo_on 366 N = some (v, N') ∧ z_K o A nm P' G' hn' M' N' ∧ z_tc 0 T M' ∧ z_tm 0 T N' ∧ z_Fr (fun i => i ≠ 1 ∧ (i < 7 ∨ 321 < i)) M M' ∧ z_Fr (fun i => i ≠ 366 ∧ i ≠ 391 ∧ (i < 399 ∨ 404 < i)) N N' ∧ (∀ k, k ≠ 1 → (k < 54 ∨ (58 < k ∧ k ≠ 63 ∧ k ≠ 64)) → N'.1 366 k = N.1 366 k) := fun e1 e2 =>
    ⟨0, _, _, P, G, _, e1, e2, ⟨hW, hM1, hN1, hG0, hGW, hHC.fr (fun i a b => z_sIa _ _ _ _ (by omega)), hHR.fr (z_sIk _ _ _ _ (by decide)) (z_sIk _ _ _ _ (by decide)) (z_sIa _ _ _ _ (by decide))⟩, ⟨z_sIs _ _ _ _, fun k hk => by omega⟩, ⟨z_sIs _ _ _ _, fun k hk => by omega⟩, z_Fr.rf.sI (by omega), z_Fr.rf.sI (by omega), fun k a _ => z_sIk _ _ _ _ a⟩
  by_cases h0 : A 0 0 = 0
  · refine no ?_ ?_
    · unfold f_Sp_on
      rw [hC.2.1, hC.2.2.1.1, h0, jp_0_0]; rfl
    · unfold f_Mo_on f_Mo_isTold
      rw [show (sI N 366 1 0).1 366 31 = nI (A 0 0) from (z_sIk _ _ _ _ (by decide)).trans hM.1.1, h0]; rfl
  have h00 : 0 < A 0 0 := by omega
  have hTN : ∀ q, q < n → (sI N 366 1 0).1 367 q = nI (T q) := fun q hq => k.2 q hq
  have hchk : ∃ c, (1 ≤ n → f_Sp_check 2 (nI (n - 1)) M = some c ∧ f_Mo_checked 367 (nI (n - 1)) (sI N 366 1 0) = some c) := by
    by_cases n1 : 1 ≤ n
    · obtain ⟨c, c1, c2⟩ := g_check (M := M) (N := sI N 366 1 0) (p := n - 1) jl_2 jl_367 (by omega) (by omega) (by omega) (by omega) (fun j hj => by rw [h.2 j (by omega), hTN j (by omega)])
      exact ⟨c, fun _ => ⟨c1, c2⟩⟩
    · exact ⟨0, fun q => absurd q n1⟩
  obtain ⟨c, hchk⟩ := hchk
  obtain ⟨v1, ec, pc⟩ := c_isImg hW hC hw h (c := c) (fun hs => (hchk (by have := hs.2; omega)).1)
  obtain ⟨v2, em, pm⟩ := m_isTold hW hN1 h00 hw hTN (c := c) (fun q => (hchk q).2)
  by_cases good : z_st T n (A 0 3) ∧ nI (T (n - 1)) = c
  · have e1 : v1 = 1 := by rcases pc with x | x; exact x.1; exact absurd good x.2
    have e2 : v2 = 1 := by rcases pm with x | x; exact x.1; exact absurd good x.2
    subst e1; subst e2
    have hs := good.1
    have hP' : z_WP (A 0 3) (z_ip T) := fun d hd => ⟨(hs.1 d hd).1, fun b b1 b2 => (hs.1 d hd).2 b b1 b2⟩
    have hW' : z_WB A nm (z_ip T) := hW.to hP'
    have ho := hC.1
    have sc : z_ok (f_Sp_on 0 M) (fun r => r.1 = 1 ∧ z_CB o A nm (z_ip T) r.2 ∧ z_Fr (fun i => i ≠ 1 ∧ (i < 7 ∨ 321 < i)) M r.2 ∧ z_HC (A 0 3) (fun _ => z_ip T) 0 r.2 ∧ z_tc 0 T r.2) := by
      unfold f_Sp_on
      rw [hC.2.1, hC.2.2.1.1]
      refine z_eq (r := (1 : Int32)) (by rw [if_pos (show (0 : Int32) < nI (A 0 0) from nI_lt (a := 0) h00 (by omega)), ec]; rfl) ?_
      refine z_bind (P := fun M' => z_CB o A nm (z_ip T) M' ∧ z_Fr (fun i => i < 7 ∨ 321 < i) M M' ∧ M'.1 108 3 = nI 0 ∧ M'.1 108 4 = nI 0) (z_neg z_10 ?_) (fun M' hM' => ?_)
      · refine z_bind (c_takeImg hW hC hw h hs) (fun M1 h1 => ?_)
        obtain ⟨t1, t2⟩ := h1
        rw [jp_0_5]
        refine z_eq (r := sI (sI M1 108 3 0) 108 4 0) rfl ?_
        have F2 : ∀ i, (i < o + 41 ∨ o + 49 < i) → i ≠ 108 → (sI (sI M1 108 3 0) 108 4 0).1 i = M.1 i := fun i a b => by rw [z_sIa _ _ _ _ b, z_sIa _ _ _ _ b]; exact t2.1 i a
        rw [F2 0 (by omega) (by decide), hC.2.1, jp_0_6, jp_0_7]
        have hCH : z_CH o A nm (z_ip T) (sI (sI M1 108 3 0) 108 4 0) := hC.ch.to hW (by rw [F2 0 (by omega) (by decide)]) (fun i a b => F2 i (by omega) (by omega)) (t1.fr hd8 (fun i a b => by rw [z_sIa _ _ _ _ (by omega), z_sIa _ _ _ _ (by omega)]))
        refine z_bind (c_replay hW' h00 hCH) (fun M3 h3 => z_some ⟨h3.1, ⟨fun i hi => ?_, ?_⟩, ?_, ?_⟩)
        · rw [h3.2.1 i (by omega)]; exact F2 i (by omega) (by omega)
        · rw [h3.2.2]; exact t2.2
        · rw [h3.2.1 108 (by omega)]; rfl
        · rw [h3.2.1 108 (by omega)]; rfl
      · obtain ⟨i1, i2, i3, i4⟩ := hM'
        rw [jp_0_0]
        refine z_eq (z_bchk (Or.inr rfl)) (z_some ⟨rfl, ?_, (i2.wk (fun i q => q.2)).sI (by omega), ?_, ?_⟩)
        · obtain ⟨h1, h2, h3, h4, h5, h6⟩ := i1
          exact ⟨h1, h2, h3.fr (fun i a b => z_sIa _ _ _ _ (by omega)), h4.fr hd8 (fun i a b => z_sIa _ _ _ _ (by omega)), fun q => (h5 q).fr (Nat.le_refl _) (fun i a b => z_sIa _ _ _ _ (by omega)), fun i w hi hw j hj => by rw [z_sIa _ _ _ _ (by omega)]; exact h6 i w hi hw j hj⟩
        · exact ⟨by decide, i4, 0, by decide, i3, fun j hj => by omega⟩
        · exact ⟨z_sIs _ _ _ _, fun k hk => by omega⟩
    have sm : z_ok (f_Mo_on 366 N) (fun r => r.1 = 1 ∧ z_MB A nm (z_ip T) r.2 ∧ z_Fr (fun i => i ≠ 366 ∧ i ≠ 391 ∧ (i < 399 ∨ 404 < i)) N r.2 ∧ (∀ k, k ≠ 1 → (k < 54 ∨ (58 < k ∧ k ≠ 63 ∧ k ≠ 64)) → r.2.1 366 k = N.1 366 k) ∧ z_HR (A 0 3) (fun _ => z_ip T) 0 r.2 ∧ z_tm 0 T r.2) := by
      unfold f_Mo_on
      rw [k.1, em]
      refine z_eq rfl (z_neg z_10 ?_)
      refine z_bind (m_takeImg hW hN1 hw hTN hs) (fun N1 h1 => ?_)
      obtain ⟨t1, t2⟩ := h1
      have B : z_BK (sI N 366 1 0) (sI N1 366 63 0) := ⟨⟨fun i hi => by rw [z_sIa _ _ _ _ hi.1]; exact t2.1 i hi.2.1, t2.2⟩, fun j hj => by rw [z_sIk _ _ _ _ (by omega), t2.1 366 (by decide)]⟩
      have hMH : z_MH A nm (z_ip T) (sI N1 366 63 0) := hN1.mh.to B (t1.fr (z_sIa _ _ _ _ (by decide)))
      have hHRo := hHR
      obtain ⟨m1, m2, nw, m3, m4, m5⟩ := hHRo
      refine z_bind (m_replay hW' h00 hMH) (fun N3 h3 => z_some ⟨rfl, h3.1, ?_, fun j a b => ?_, ⟨by decide, ?_, nw, m3, ?_, fun j hj => by omega⟩, ⟨?_, fun k hk => by omega⟩⟩)
      · have := B.tr h3.2.bk
        exact ⟨fun i hi => by rw [this.1.1 i hi, z_sIa _ _ _ _ hi.1], this.1.2⟩
      · rw [(B.tr h3.2.bk).2 j b, z_sIk _ _ _ _ a]
      · rw [h3.2.2 63 (by decide)]; exact z_sIs _ _ _ _
      · rw [h3.2.2 64 (by decide), z_sIk _ _ _ _ (by decide), t2.1 366 (by decide), z_sIk _ _ _ _ (by decide)]; exact m4
      · rw [h3.2.2 1 (by decide), z_sIk _ _ _ _ (by decide), t2.1 366 (by decide)]; exact z_sIs _ _ _ _
    obtain ⟨⟨w, M'⟩, ec', p1, p2, p3, p4, p5⟩ := sc
    obtain ⟨⟨w', N'⟩, em', u1, u2, u3, u4, u5, u6⟩ := sm
    have p1 : w = 1 := p1
    have u1 : w' = 1 := u1
    subst p1; subst u1
    exact ⟨1, M', N', z_ip T, fun _ => z_ip T, 0, ec', em', ⟨hW', p2, u2, rfl, fun _ _ => hP', p4, u5⟩, p5, u6, p3, u3, u4⟩
  · have e1 : v1 = 0 := by rcases pc with x | x; exact absurd ⟨x.2.1, x.2.2⟩ good; exact x.1
    have e2 : v2 = 0 := by rcases pm with x | x; exact absurd ⟨x.2.1, x.2.2⟩ good; exact x.1
    subst e1; subst e2
    refine no ?_ ?_
    · unfold f_Sp_on
      rw [hC.2.1, hC.2.2.1.1, if_pos (show (0 : Int32) < nI (A 0 0) from nI_lt (a := 0) h00 (by omega)), ec, jp_0_0]; rfl
    · unfold f_Mo_on
      rw [k.1, em]; rfl
end
