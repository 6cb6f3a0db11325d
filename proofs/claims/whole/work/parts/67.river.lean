/-! ===== pure: opera, both ===== -/
/-- what reading an opera leaves of the reference -/
def z_YQ (N N' : SM) : Prop := (∀ i k, z_pk i k → ¬ (i = 366 ∧ (k = 1 ∨ k = 3 ∨ k = 7 ∨ k = 8 ∨ k = 42)) → N'.1 i k = N.1 i k) ∧ ∀ i k, i ≠ 386 ∨ 24 ≤ k → N'.2 i k = N.2 i k
theorem z_YO.yq {N N' : SM} (h : z_YO N N') : z_YQ N N' := ⟨fun i k q r => h.1 i k q (by omega), h.2⟩
theorem z_YQ.tr {N N' N'' : SM} (h : z_YQ N N') (k : z_YQ N' N'') : z_YQ N N'' := ⟨fun i j q r => (k.1 i j q r).trans (h.1 i j q r), fun i j q => (k.2 i j q).trans (h.2 i j q)⟩
theorem z_YQ.s {N N' : SM} {k : Nat} {v : Int32} (h : z_YQ N N') (hk : k = 1 ∨ k = 2 ∨ k = 3 ∨ k = 4 ∨ k = 5 ∨ k = 6 ∨ k = 7 ∨ k = 8 ∨ k = 42) : z_YQ N (sI N' 366 k v) := ⟨fun i j q r => by
  rw [z_sI]
  by_cases e : i = 366
  · subst e
    rw [if_pos rfl]
    by_cases e2 : j = k
    · subst e2
      exfalso
      unfold z_pk at q
      omega
    · rw [if_neg e2]; exact h.1 366 j q r
  · rw [if_neg e]; exact h.1 i j q r, h.2⟩
theorem z_YQ.rf {N : SM} : z_YQ N N := ⟨fun _ _ _ _ => rfl, fun _ _ _ => rfl⟩
theorem z_YQ.row {N N' : SM} (h : z_YQ N N') {i : Nat} (h1 : i ≠ 366) (h2 : i < 385 ∨ 398 < i) : N'.1 i = N.1 i := funext fun j => h.1 i j (by unfold z_pk; omega) (by omega)
section
variable {T : Nat → Nat} {n R o hn : Nat} {A : ZA} {nm : Nat → Nat → Nat} {P : ZP} {G : Nat → ZP} {M N M1 N1 M' N' : SM}
theorem z_MB.yq (h : z_MB A nm P N) (hW : z_WB A nm P) (x : z_YQ N N') : z_MB A nm P N' := by
  obtain ⟨⟨a1, a2, a3, a4, a5, a6, a7, b1, b2, b3, b4, b5⟩, h2, h3, h4, h5⟩ := h
  have f : ∀ k, k = 31 ∨ k = 47 ∨ k = 48 ∨ k = 50 → N'.1 366 k = N.1 366 k := fun k hk => x.1 366 k (by unfold z_pk; omega) (by omega)
  have g : ∀ i k, 385 ≤ i → i < 397 → z_th i ≤ k → N'.1 i k = N.1 i k := fun i k i1 i2 hk => x.1 i k (by unfold z_pk; omega) (by omega)
  refine ⟨⟨(f 31 (by omega)).trans a1, (g 395 1 (by decide) (by decide) (by decide)).trans a2, ?_, (g 385 4 (by decide) (by decide) (by decide)).trans a4, (g 385 5 (by decide) (by decide) (by decide)).trans a5, (g 385 6 (by decide) (by decide) (by decide)).trans a6, (g 385 7 (by decide) (by decide) (by decide)).trans a7, fun c hc => ⟨?_, ?_, ?_⟩, fun d hd => ?_, fun i hi => ⟨?_, ?_⟩, fun i hi => ⟨?_, ?_⟩, fun i hi => ⟨?_, ?_⟩⟩, fun d hd => ⟨?_, fun b b1' b2' => ?_⟩, fun q => (h3 q).fr (fun i i1 i2 => x.row (by omega) (by omega)), ⟨(f 47 (by omega)).trans h4.1, (f 48 (by omega)).trans h4.2.1, (f 50 (by omega)).trans h4.2.2⟩, fun i w hi hw => ?_⟩
  · rw [g 396 1 (by decide) (by decide) (by decide)]; exact a3
  · rw [g 387 _ (by decide) (by decide) (show 12 ≤ 12 + c by omega)]; exact (b1 c hc).1
  · rw [g 388 _ (by decide) (by decide) (show 12 ≤ 12 + c by omega)]; exact (b1 c hc).2.1
  · rw [g 389 _ (by decide) (by decide) (show 12 ≤ 12 + c by omega)]; exact (b1 c hc).2.2
  · rw [g 390 _ (by decide) (by decide) (show 8 ≤ 8 + d by omega)]; exact b2 d hd
  · rw [g 392 _ (by decide) (by decide) (show 8 ≤ 8 + 2 * i by omega)]; exact (b3 i hi).1
  · rw [g 392 _ (by decide) (by decide) (show 8 ≤ 8 + 2 * i + 1 by omega)]; exact (b3 i hi).2
  · rw [g 393 _ (by decide) (by decide) (show 8 ≤ 8 + 2 * i by omega)]; exact (b4 i hi).1
  · rw [g 393 _ (by decide) (by decide) (show 8 ≤ 8 + 2 * i + 1 by omega)]; exact (b4 i hi).2
  · rw [g 394 _ (by decide) (by decide) (show 8 ≤ 8 + 2 * i by omega)]; exact (b5 i hi).1
  · rw [g 394 _ (by decide) (by decide) (show 8 ≤ 8 + 2 * i + 1 by omega)]; exact (b5 i hi).2
  · rw [g 391 _ (by decide) (by decide) (show 488 ≤ 488 + 61 * d by omega)]; exact (h2 d hd).1
  · rw [g 391 _ (by decide) (by decide) (show 488 ≤ 488 + 61 * d + b by omega)]; exact (h2 d hd).2 b b1' b2'
  · rw [x.2 386 _ (Or.inr (by omega))]; exact h5 i w hi hw
theorem z_HR.yq (h : z_HR n G hn N) (x : z_YQ N N') : z_HR n G hn N' := h.fr (x.1 366 63 (by unfold z_pk; omega) (by omega)) (x.1 366 64 (by unfold z_pk; omega) (by omega)) (x.row (by decide) (by decide))
theorem z_CB.kp (hW : z_WB A nm P) (h : z_CB o A nm P M) (k0 : M'.1 0 8 = M.1 0 8) (k1 : ∀ i, o ≤ i → i < o + 50 → M'.1 i = M.1 i) (k2 : ∀ i, 134 ≤ i → i < 319 → M'.1 i = M.1 i) : z_CB o A nm P M' := by
  obtain ⟨h1, h2, h3, h4, h5, h6⟩ := h
  refine ⟨h1, by rw [k0]; exact h2, h3.fr (fun i a b => k1 i a (by omega)), h4.fr hW.1.2.1 (fun i a b => k1 i (by omega) b), fun q => (h5 q).fr (by decide) k2, fun i w hi hw j hj => ?_⟩
  have := z_w8 hW hi hw
  rw [k1 _ (by omega) (by omega)]; exact h6 i w hi hw j hj
/-- the opera of a river alone -/
def z_A0 (c : Nat) : ZA := fun i k => if i = 0 then (if k = 0 then c else if k = 2 then 99 else 0) else 0
theorem z_QB.river {c : Nat} (hR : R = 7 ∨ R = 57) (hj : jop (M.1 107 2) = R) (hc : 2 ≤ c ∧ c ≤ 12) (h1 : M.1 R 1 = nI c) (h2 : M.1 R 2 = 0 ∧ M.1 R 3 = 99 ∧ M.1 R 4 = 0 ∧ M.1 (R + 30) 2 = 0 ∧ M.1 (R + 33) 2 = 0 ∧ M.1 (R + 36) 2 = 0 ∧ ∀ c, c < 12 → M.1 (R + 1) c = 0 ∧ M.1 (R + 2) c = 0 ∧ M.1 (R + 3) c = 0) (h3 : N.1 366 30 = nI c) (h4 : z_m0 N) : z_QB R (z_A0 c) nm P M N := by
  obtain ⟨a2, a3, a4, a5, a6, a7, a8⟩ := h2
  obtain ⟨b1, b2, b3, b4⟩ := h4
  refine ⟨hR, hj, fun i k hi hk hD => ?_, fun i w hi hw => ?_, fun i w hi hw => ?_, fun i w hi hw => ?_, fun d hd => ?_, fun d hd => ?_, fun d hd => ?_⟩
  · match i, hi with
    | 0, _ =>
      have hk7 : k < 7 := hD
      match k, hk7 with
      | 0, _ => exact ⟨h1, h3, fun _ => hc, fun e => by omega, fun e => by omega, fun e => by omega, fun e => by omega⟩
      | 1, _ => exact ⟨a2, b1, fun e => by omega, fun _ => (show 0 < c by omega), fun e => by omega, fun e => by omega, fun e => by omega⟩
      | 2, _ => exact ⟨a3, b2, fun e => by omega, fun e => by omega, fun _ => (show 1 ≤ 99 ∧ 99 ≤ 99 by decide), fun e => by omega, fun e => by omega⟩
      | 3, _ => exact ⟨a4, b3 0 (by decide), fun e => by omega, fun e => by omega, fun e => by omega, fun _ => (show 0 ≤ 8 by decide), fun e => by omega⟩
      | 4, _ => exact ⟨a5, b3 1 (by decide), fun e => by omega, fun e => by omega, fun e => by omega, fun e => by omega, fun _ => (show 0 ≤ 4 by decide)⟩
      | 5, _ => exact ⟨a6, b3 2 (by decide), fun e => by omega, fun e => by omega, fun e => by omega, fun e => by omega, fun _ => (show 0 ≤ 4 by decide)⟩
      | 6, _ => exact ⟨a7, b3 3 (by decide), fun e => by omega, fun e => by omega, fun e => by omega, fun e => by omega, fun _ => (show 0 ≤ 4 by decide)⟩
    | 1, _ => exact ⟨(a8 k hk).1, (b4 k hk).1, Nat.zero_le _⟩
    | 2, _ => exact ⟨(a8 k hk).2.1, (b4 k hk).2.1, Nat.zero_le _⟩
    | 3, _ => exact ⟨(a8 k hk).2.2, (b4 k hk).2.2, Nat.zero_le _⟩
    | 4, _ => exact absurd hD (Nat.not_lt_zero _)
    | 5, _ => exact absurd hD (Nat.not_lt_zero _)
    | 6, _ => exact absurd hD (Nat.not_lt_zero _)
    | 7, _ => exact absurd hD (Nat.not_lt_zero _)
    | 8, _ => exact absurd hD (Nat.not_lt_zero _)
    | 9, _ => exact absurd hD (Nat.not_lt_zero _)
    | 10, _ => exact absurd hD (Nat.not_lt_zero _)
  · exfalso
    have e : z_A0 c 0 (3 + i) = 0 := by
      show (if (0 : Nat) = 0 then (if 3 + i = 0 then c else if 3 + i = 2 then 99 else 0) else 0) = 0
      rw [if_pos rfl, if_neg (by omega), if_neg (by omega)]
    omega
  · exfalso
    have e : z_A0 c 0 (3 + i) = 0 := by
      show (if (0 : Nat) = 0 then (if 3 + i = 0 then c else if 3 + i = 2 then 99 else 0) else 0) = 0
      rw [if_pos rfl, if_neg (by omega), if_neg (by omega)]
    omega
  · exfalso
    have e : z_A0 c 0 (3 + i) = 0 := by
      show (if (0 : Nat) = 0 then (if 3 + i = 0 then c else if 3 + i = 2 then 99 else 0) else 0) = 0
      rw [if_pos rfl, if_neg (by omega), if_neg (by omega)]
    omega
  · exact absurd hd (Nat.not_lt_zero _)
  · exact absurd hd (Nat.not_lt_zero _)
  · exact absurd hd (Nat.not_lt_zero _)
theorem z_str_river : jsln 1000 = nI ([114, 105, 118, 101, 114] : List Nat).length ∧ (∀ i, i < ([114, 105, 118, 101, 114] : List Nat).length → jsch 1000 (nI (0 + i)) = some (nI (([114, 105, 118, 101, 114] : List Nat).getD i 0))) := by decide +kernel
/-- the river and its ; -/
theorem g_river (hR : R = 7 ∨ R = 57) (hw : z_wt n T) (h : z_BT T n 0 M N) (hK : z_KW N) (hj : jop (M.1 107 2) = R) (h2 : z_c0 R M) (h4 : z_m0 N) :
    ∃ w M2 N2, ((f_Or_takeRiver 107 M).bind fun q13 => if q13.1 = 0 then (some ((0 : Int32), q13.2)) else ((f_Re_takeSign 3 59 q13.2).bind fun q18 => some (q18.1, q18.2))) = some (w, M2) ∧
      ((f_Mo_asks 366 (jpf 366 10) N).bind fun q12 => (f_Mo_number 366 2 12 q12).bind fun q13 => f_Mo_asksSign 366 59 (sI q13.2 366 30 q13.1)) = some N2 ∧ z_YC R M M2 ∧ z_YN N N2 ∧
      ((w = 1 ∧ (∃ b', z_BT T n b' M2 N2) ∧ z_SF M M2 ∧ ∃ c, 2 ≤ c ∧ c ≤ 12 ∧ ∀ nm P, z_QB R (z_A0 c) nm P M2 N2) ∨ (w = 0 ∧ z_FF M2 N2)) := by
  have st : ∀ {N1 N2 : SM} {v : Int32}, f_Mo_asksSign 366 59 (sI N1 366 30 v) = some N2 → N1.1 366 5 ≠ 0 → N2 = sI N1 366 30 v := fun e b => by
    rw [b_sign (by rw [z_sIk _ _ _ _ (by decide)]; exact b)] at e
    exact (Option.some.inj e).symm
  unfold f_Or_takeRiver
  rw [jp_107_0]
  obtain ⟨q, N1, e1, e2, x1, x2, h5⟩ := g_ask hw h hK (p := (10, [114, 105, 118, 101, 114])) (by decide) z_str_river
  rw [e1, show f_Mo_asks 366 (jpf 366 10) N = some N1 from e2]
  simp only [Option.bind_some]
  rcases h5 with ⟨q1, B1, S1⟩ | ⟨q0, F, _⟩
  · rw [q1, if_neg z_10]
    obtain ⟨r, t, e3, e4, x3, x4, h6⟩ := g_num (lo := 2) (hi := 12) hw B1 (by decide) (by decide)
    rw [zl_2, zl_12, e3, e4]
    simp only [Option.bind_some]
    rcases h6 with ⟨c, r1, t1, c1, c2, B2, S2, _⟩ | ⟨r1, F, _⟩
    · rw [r1, t1, if_neg (z_lt0n (by omega))]
      simp only [Option.bind_some]
      rw [if_neg z_10]
      have xm := x1.tr x3
      have xn := x2.tr x4
      have j2 : jop (r.2.1 107 2) = R := by rw [xm.1 107 (by decide)]; exact hj
      rw [j2]
      have B3 : z_BT T n (z_en T n (z_en T n 0)) (sI r.2 R 1 (nI c)) (sI t.2 366 30 (nI c)) := B2.fr (z_sIa _ _ _ _ (by omega)) (z_sIa _ _ _ _ (by omega)) (z_sIa _ _ _ _ (by omega)) (z_sIa _ _ _ _ (by omega)) (fun k hk => z_sIk _ _ _ _ (by omega)) (z_sIa _ _ _ _ (by decide))
      obtain ⟨s, N3, e5, e6, x5, x6, h7⟩ := g_sign (c := 59) hw B3 (by unfold z_al; omega) (by decide)
      rw [show (59 : Int32) = nI 59 from rfl, e5, e6]
      simp only [Option.bind_some]
      have C : z_YC R M s.2 := (xm.yc.s (i := R) (k := 1) (v := nI c) (by omega) (by omega) (Or.inr (by decide))).tr x5.yc
      have Y : z_YN N N3 := (xn.yn.s (i := 366) (k := 30) (v := nI c) (z_pf (by decide))).tr x6.yn
      rcases h7 with ⟨s1, B4, S3, _⟩ | ⟨s0, F⟩
      · refine ⟨s.1, s.2, N3, rfl, rfl, C, Y, Or.inl ⟨s1, ⟨_, B4⟩, ((S1.tr S2).s (by omega)).tr S3, c, c1, c2, fun nm P => ?_⟩⟩
        have k1 : ∀ i, 7 ≤ i → s.2.1 i = (sI r.2 R 1 (nI c)).1 i := fun i hi => x5.1 i ⟨by omega, by omega⟩
        have k2 : ∀ i, 7 ≤ i → r.2.1 i = M.1 i := fun i hi => xm.1 i ⟨by omega, by omega⟩
        obtain ⟨z0, z1, z2, z3, z4, z5, z6, z7⟩ := h2
        obtain ⟨w1, w2, w3, w4⟩ := h4
        have kN : ∀ i, i ≠ 366 → N3.1 i = N.1 i := fun i hi => by rw [x6.1.1 i hi, z_sIa _ _ _ _ hi, xn.1.1 i hi]
        refine z_QB.river hR ?_ ⟨c1, c2⟩ ?_ ⟨?_, ?_, ?_, ?_, ?_, ?_, fun k hk => ⟨?_, ?_, ?_⟩⟩ ?_ ⟨?_, ?_, fun i hi => ?_, fun k hk => ⟨?_, ?_, ?_⟩⟩
        · rw [k1 107 (by decide), z_sIa _ _ _ _ (by omega)]; exact j2
        · rw [k1 R (by omega), z_sIs]
        · rw [k1 R (by omega), z_sIk _ _ _ _ (by decide), k2 R (by omega)]; exact z1
        · rw [k1 R (by omega), z_sIk _ _ _ _ (by decide), k2 R (by omega)]; exact z2
        · rw [k1 R (by omega), z_sIk _ _ _ _ (by decide), k2 R (by omega)]; exact z3
        · rw [k1 _ (by omega), z_sIa _ _ _ _ (by omega), k2 _ (by omega)]; exact z4
        · rw [k1 _ (by omega), z_sIa _ _ _ _ (by omega), k2 _ (by omega)]; exact z5
        · rw [k1 _ (by omega), z_sIa _ _ _ _ (by omega), k2 _ (by omega)]; exact z6
        · rw [k1 _ (by omega), z_sIa _ _ _ _ (by omega), k2 _ (by omega)]; exact (z7 k hk).1
        · rw [k1 _ (by omega), z_sIa _ _ _ _ (by omega), k2 _ (by omega)]; exact (z7 k hk).2.1
        · rw [k1 _ (by omega), z_sIa _ _ _ _ (by omega), k2 _ (by omega)]; exact (z7 k hk).2.2
        · rw [x6.2 30 (by decide), z_sIs]
        · rw [kN 395 (by decide)]; exact w1
        · rw [kN 396 (by decide)]; exact w2
        · rw [kN 385 (by decide)]; exact w3 i hi
        · rw [kN 387 (by decide)]; exact (w4 k hk).1
        · rw [kN 388 (by decide)]; exact (w4 k hk).2.1
        · rw [kN 389 (by decide)]; exact (w4 k hk).2.2
      · exact ⟨s.1, s.2, N3, rfl, rfl, C, Y, Or.inr ⟨s0, F⟩⟩
    · rw [r1, if_pos z_m1]
      simp only [Option.bind_some]
      rw [if_pos trivial]
      have b5 : (sI t.2 366 30 t.1).1 366 5 ≠ 0 := by rw [z_sIk _ _ _ _ (by decide)]; exact F.bad
      exact ⟨0, r.2, sI t.2 366 30 t.1, rfl, b_sign b5, (x1.tr x3).yc, (x2.tr x4).yn.s (z_pf (by decide)), Or.inr ⟨rfl, F.to z_SF.rf (z_sIk _ _ _ _ (by decide)) (z_sIk _ _ _ _ (by decide))⟩⟩
  · rw [q0, if_pos rfl, b_num F.bad]
    simp only [Option.bind_some]
    rw [if_pos trivial]
    have b5 : (sI N1 366 30 0).1 366 5 ≠ 0 := by rw [z_sIk _ _ _ _ (by decide)]; exact F.bad
    exact ⟨0, q.2, sI N1 366 30 0, rfl, b_sign b5, x1.yc, x2.yn.s (z_pf (by decide)), Or.inr ⟨rfl, F.to z_SF.rf (z_sIk _ _ _ _ (by decide)) (z_sIk _ _ _ _ (by decide))⟩⟩
end
