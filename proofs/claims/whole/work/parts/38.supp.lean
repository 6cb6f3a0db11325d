/-! ===== pure: supposed rivers, of the class ===== -/
section
variable {o : Nat} {A : ZA} {nm : Nat → Nat → Nat} {P : ZP} {M N : SM} {b : Nat}
theorem z_CB.fr {M' : SM} (hW : z_WB A nm P) (h : z_CB o A nm P M) (k : z_Fr (fun i => i < 319 ∨ 321 < i) M M') : z_CB o A nm P M' := by
  obtain ⟨h1, h2, h3, h4, h5, h6⟩ := h
  have hd := hW.1.2.1
  have hm := hW.1.2.2.1
  have hbt := hW.1.2.2.2.1
  refine ⟨h1, by rw [k.1 0 (by omega)]; exact h2, h3.fr (fun i a1 a2 => k.1 i (by omega)), h4.fr hd (fun i a1 a2 => k.1 i (by omega)), fun q => (h5 q).fr (Nat.le_refl _) (fun i a1 a2 => k.1 i (by omega)), fun i w hi hw j hj => ?_⟩
  have : w < 8 := by
    match i, hi with
    | 0, _ => exact Nat.lt_of_lt_of_le hw hd
    | 1, _ => exact Nat.lt_of_lt_of_le hw (Nat.le_trans hm (by decide))
    | 2, _ => exact Nat.lt_of_lt_of_le hw (Nat.le_trans hbt (by decide))
    | i + 3, h => omega
  rw [k.1 _ (by omega)]
  exact h6 i w hi hw j hj
theorem c_begin (hW : z_WB A nm P) (h : z_CB o A nm P M) (h0 : 0 < A 0 0) (hb : b ≤ 60) :
    z_ok (f_Po_begin 319 132 (nI b) M) (fun M' => (∃ pf : Nat → Nat, z_P3 A (r_v A (z_pa P) b).1 (r_v A (z_pa P) b).2.1 pf M' ∧ ∀ k, k < 4 → pf k = (r_v A (z_pa P) b).2.2 k) ∧ z_Fr (fun i => i < 319 ∨ 321 < i) M M' ∧ M'.1 319 7 = nI 0 ∧ M'.1 319 8 = -1 ∧ M'.1 319 9 = nI 0 ∧ M'.1 319 10 = nI 0) := by
  obtain ⟨hc0, w2, w3, w4, w5, w6, w7, w8, w9, w10, w11, w12⟩ := id hW.1
  have hr := h.2.2.2.2.1 h0 b hb
  unfold f_Po_begin
  refine z_eq c_suppose ?_
  generalize hM0 : sI (sI (sI (sI M 319 7 0) 319 8 (-1)) 319 9 0) 319 10 0 = M0
  have F0 : z_Fr (fun i => i < 319 ∨ 321 < i) M M0 := by rw [← hM0]; exact (((z_Fr.rf.sI (by omega)).sI (by omega)).sI (by omega)).sI (by omega)
  have G0 : M0.1 319 7 = nI 0 ∧ M0.1 319 8 = -1 ∧ M0.1 319 9 = nI 0 ∧ M0.1 319 10 = nI 0 := by rw [← hM0]; exact ⟨rfl, rfl, rfl, rfl⟩
  refine z_bind (P := fun s => z_Fr (fun i => i ≠ 320) M0 s ∧ (∀ c, c < 12 → s.1 320 c = M.1 (134 + b) c)) ?_ (fun M1 h1 => ?_)
  · refine z_loop (fun n c s => lp_Po_begin_6 319 132 (nI b) n c s) (fun c s => z_Fr (fun i => i ≠ 320) M0 s ∧ (∀ j, j < c → s.1 320 j = M.1 (134 + b) j)) _ 12 ?_ ?_ jfuel 0 M0 (Nat.zero_le _) (by decide) ⟨z_Fr.rf, fun j h => by omega⟩
    · intro n c M' hc hI k
      obtain ⟨hF, hr⟩ := hI
      show z_ok (lp_Po_begin_6 319 132 (nI b) (n + 1) (nI c) M') _
      rw [lp_Po_begin_6, jp_319_0, jl_320]
      refine z_pos (nI_lt hc (by omega)) ?_
      refine z_eq (r := M.1 (134 + b) c) (by unfold f_Ru_water; rw [jp_132_0, zc_133 _ (by omega) (by omega), hF.1 _ (by omega), F0.1 _ (by omega)]; rfl) ?_
      refine z_eq (zp_320 _ (by omega)) ?_
      rw [nI_1]
      refine k _ ⟨hF.sI (by omega), fun j hj => ?_⟩
      by_cases e : j = c
      · subst e; exact z_sIs _ _ _ _
      · rw [z_sIk _ _ _ _ e]; exact hr j (by omega)
    · intro n M' hI
      show z_ok (lp_Po_begin_6 319 132 (nI b) (n + 1) (nI 12) M') _
      rw [lp_Po_begin_6, jp_319_0, jl_320]
      exact z_neg (nI_nlt (Nat.le_refl _) (by omega)) (z_some hI)
  · refine z_bind (P := fun s => z_Fr (fun i => i ≠ 321) M1 s ∧ (∀ c, c < 4 → s.1 321 c = M.1 (196 + b) c)) ?_ (fun M2 h2 => ?_)
    · refine z_loop (fun n c s => lp_Po_begin_37 319 132 (nI b) n c s) (fun c s => z_Fr (fun i => i ≠ 321) M1 s ∧ (∀ j, j < c → s.1 321 j = M.1 (196 + b) j)) _ 4 ?_ ?_ jfuel 0 M1 (Nat.zero_le _) (by decide) ⟨z_Fr.rf, fun j h => by omega⟩
      · intro n c M' hc hI k
        obtain ⟨hF, hr⟩ := hI
        show z_ok (lp_Po_begin_37 319 132 (nI b) (n + 1) (nI c) M') _
        rw [lp_Po_begin_37, jp_319_1, jl_321]
        refine z_pos (nI_lt hc (by omega)) ?_
        refine z_eq (r := M.1 (196 + b) c) (by unfold f_Ru_boatCell; rw [jp_132_1, zc_195 _ (by omega) (by omega), hF.1 _ (by omega), h1.1.1 _ (by omega), F0.1 _ (by omega)]; rfl) ?_
        refine z_eq (zp_321 _ (by omega)) ?_
        rw [nI_1]
        refine k _ ⟨hF.sI (by omega), fun j hj => ?_⟩
        by_cases e : j = c
        · subst e; exact z_sIs _ _ _ _
        · rw [z_sIk _ _ _ _ e]; exact hr j (by omega)
      · intro n M' hI
        show z_ok (lp_Po_begin_37 319 132 (nI b) (n + 1) (nI 4) M') _
        rw [lp_Po_begin_37, jp_319_1, jl_321]
        exact z_neg (nI_nlt (Nat.le_refl _) (by omega)) (z_some hI)
    · have F2 : z_Fr (fun i => i < 319 ∨ 321 < i) M M2 := (F0.tr (h1.1.wk (fun i q => by omega))).tr (h2.1.wk (fun i q => by omega))
      have e : ∀ k, M2.1 319 k = M0.1 319 k := fun k => by rw [h2.1.1 319 (by decide), h1.1.1 319 (by decide)]
      have ms : ∀ (X : SM) (k : Nat), k < 4 → X.1 (258 + b) k = M.1 (258 + b) k → f_Ru_measure 132 (nI b) (nI k) X = some (nI ((r_v A (z_pa P) b).2.2 k)) := fun X k hk hX => by
        unfold f_Ru_measure
        rw [jp_132_2, zc_257 _ (by omega) (by omega), hX, hr.2.2.1 k hk]; rfl
      have q : ∀ (X : SM) (k : Nat) (v : Int32), (sI X 319 k v).1 (258 + b) = X.1 (258 + b) := fun X k v => z_sIa _ _ _ _ (by omega)
      have q0 : M2.1 (258 + b) = M.1 (258 + b) := F2.1 _ (by omega)
      refine z_eq (ms M2 0 (by decide) (by rw [q0])) ?_
      refine z_eq (ms _ 1 (by decide) (by rw [q, q0])) ?_
      refine z_eq (ms _ 2 (by decide) (by rw [q, q, q0])) ?_
      refine z_eq (ms _ 3 (by decide) (by rw [q, q, q, q0])) (z_some ?_)
      refine ⟨⟨fun k => if k = 4 then (M2.1 319 6).toBitVec.toNat else (r_v A (z_pa P) b).2.2 k, ⟨fun c hc => ?_, fun i hi => ?_, fun k hk => ?_⟩, fun k hk => if_neg (by omega)⟩, (((F2.sI (by omega)).sI (by omega)).sI (by omega)).sI (by omega), (e 7).trans G0.1, (e 8).trans G0.2.1, (e 9).trans G0.2.2.1, (e 10).trans G0.2.2.2⟩
      · show M2.1 320 c = _
        rw [h2.1.1 320 (by decide), h1.2 c (by omega)]; exact hr.1 c hc
      · show M2.1 321 i = _
        rw [h2.2 i (by omega)]; exact hr.2.1 i hi
      · match k, hk with
        | 0, _ => rfl
        | 1, _ => rfl
        | 2, _ => rfl
        | 3, _ => rfl
        | 4, _ => exact z_any _
        | k + 5, h => omega
/-- BARS behind b0 up to y, whichever loop plays them -/
theorem c_plays {lp : Nat → Int32 → SM → Option SM} {Y : Int32} {y b0 : Nat} {al : Nat → Nat → Nat} {pf : Nat → Nat} (hW : z_W A) (hR : z_R A) (ho : o = 7 ∨ o = 57) (h8 : jop (M.1 0 8) = o) (hO : z_OC o A M)
    (hlp : ∀ n x M', lp (n + 1) x M' = if Y < x then some M' else (f_Po_play (jpf 0 7) (jop (M'.1 0 8)) x M').bind fun q => lp n (x + 1) q) (hY : Y = nI y) (hy : y ≤ 100) (hby : b0 ≤ y)
    (hP : z_P3 A (r_v A al b0).1 (r_v A al b0).2.1 pf M) (hpf : ∀ k, k < 4 → pf k = (r_v A al b0).2.2 k) (hal : ∀ b d, d < A 0 3 → al d b ≤ 3)
    (ha : ∀ b, b0 < b → b ≤ y → ∀ M', z_PK M M' → ∀ d, d < A 0 3 → f_Po_act 319 o (nI d) (nI b) M' = some (nI (al d b))) :
    z_ok (lp jfuel (nI (b0 + 1)) M) (fun M' => (∃ pf : Nat → Nat, z_P3 A (r_v A al y).1 (r_v A al y).2.1 pf M' ∧ ∀ k, k < 4 → pf k = (r_v A al y).2.2 k) ∧ z_PK M M') := by
  refine z_loop (fun n c s => lp n c s) (fun c M' => (∃ pf : Nat → Nat, z_P3 A (r_v A al (c - 1)).1 (r_v A al (c - 1)).2.1 pf M' ∧ ∀ k, k < 4 → pf k = (r_v A al (c - 1)).2.2 k) ∧ b0 < c ∧ z_PK M M') _ (y + 1) ?_ ?_ jfuel (b0 + 1) M (by omega) (by rw [z_jf]; omega) ⟨⟨pf, hP, hpf⟩, by omega, z_PK.rf⟩
  · intro n c M' hc hI k
    obtain ⟨⟨pf, p1, p2⟩, p3, p4⟩ := hI
    show z_ok (lp (n + 1) (nI c) M') _
    rw [hlp, hY, jp_0_7, p4.1.1 0 (by omega), h8]
    refine z_neg (nI_nlt (by omega) (by omega)) ?_
    refine z_bind (c_play (S := r_v A al (c - 1)) (al := al) ho hW hR (hO.pk ho p4) (r_v_G hW _) p1 (fun d hd => hal c d hd) (fun M'' hK d hd => ha c p3 (by omega) M'' (p4.tr hK) d hd)) (fun M3 h3 => ?_)
    rw [nI_1]
    obtain ⟨c', rfl⟩ : ∃ c', c = c' + 1 := ⟨c - 1, by omega⟩
    refine k M3 ⟨⟨_, h3.1, fun k hk => ?_⟩, by omega, p4.tr h3.2⟩
    show (if k = 4 then _ else _) = _
    rw [if_neg (by omega), p2 k hk]; rfl
  · intro n M' hI
    show z_ok (lp (n + 1) (nI (y + 1)) M') _
    rw [hlp, hY]
    exact z_pos (nI_lt (by omega) (by omega)) (z_some ⟨hI.1, hI.2.2⟩)
end
/-! ===== pure: draws ===== -/
theorem z_mask31 (x : Nat) : lN x &&& 2147483647 = lN (x % 2147483648) := by
  apply Int64.toBitVec_inj.mp
  rw [Int64.toBitVec_and]
  apply BitVec.eq_of_toNat_eq
  rw [BitVec.toNat_and]
  have e1 : (lN x).toBitVec.toNat = x % 2 ^ 64 := by
    unfold lN
    rw [Int64.toBitVec_ofNat', BitVec.toNat_ofNat]
  have e2 : (lN (x % 2147483648)).toBitVec.toNat = x % 2147483648 % 2 ^ 64 := by
    unfold lN
    rw [Int64.toBitVec_ofNat', BitVec.toNat_ofNat]
  rw [e1, e2, show (2147483647 : Int64).toBitVec.toNat = 2 ^ 31 - 1 from by decide, Nat.and_two_pow_sub_one_eq_mod]
  omega
theorem z_draw {m : Nat} (hm : m < 2 ^ 31) : ((1103515245 * lN m) + 12345) &&& 2147483647 = lN ((1103515245 * m + 12345) % 2147483648) := by
  rw [show (1103515245 : Int64) = lN 1103515245 from rfl, show (12345 : Int64) = lN 12345 from rfl, lN_mul, lN_add]
  exact z_mask31 _
theorem z_modl {x y : Nat} : x - x / y * y = x % y := by
  have := Nat.div_add_mod x y
  rw [Nat.mul_comm] at this
  omega
theorem z_draw2 {m : Nat} (hm : m < 2 ^ 31) : ((1103515245 * lN m) + 12345) - ((1103515245 * lN m) + 12345) / 2147483648 * 2147483648 = lN ((1103515245 * m + 12345) % 2147483648) := by
  rw [show (1103515245 : Int64) = lN 1103515245 from rfl, show (12345 : Int64) = lN 12345 from rfl, show (2147483648 : Int64) = lN 2147483648 from rfl, lN_mul, lN_add]
  have hx : 1103515245 * m + 12345 < 2 ^ 63 := by omega
  generalize 1103515245 * m + 12345 = x at hx
  rw [z_lNdiv hx (by decide) (by decide), lN_mul, lN_sub (Nat.div_mul_le_self _ _), z_modl]
