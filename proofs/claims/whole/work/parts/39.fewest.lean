/-! ===== pure: the fewest DESKS ===== -/
def z_bn (x : Nat) : Nat := (x.testBit 0).toNat + (x.testBit 1).toNat + (x.testBit 2).toNat + (x.testBit 3).toNat + (x.testBit 4).toNat + (x.testBit 5).toNat + (x.testBit 6).toNat + (x.testBit 7).toNat
theorem z_bc : ∀ x, x < 256 → f_JI_bitCount (nI x) = some (nI (z_bn x)) := by decide +kernel
theorem z_bs : ∀ x, x < 256 → f_Mo_bits (nI x) = some (nI (z_bn x)) := by decide +kernel
theorem z_bnb : ∀ d, d ≤ 8 → ∀ x, x < 2 ^ d → z_bn x ≤ d := by decide +kernel
theorem z_all : ∀ d, d ≤ 8 → ((1 : Int32) <<< (nI d &&& 31)) - 1 = nI (2 ^ d - 1) := by decide +kernel
theorem z_not : ∀ d, d ≤ 8 → ∀ x, x < 2 ^ d → nI (2 ^ d - 1) &&& (nI x ^^^ (-1)) = nI (2 ^ d - 1 - x) := by decide +kernel
theorem z_pow8 {d : Nat} (h : d ≤ 8) : 1 ≤ 2 ^ d ∧ 2 ^ d ≤ 256 := ⟨Nat.one_le_two_pow, Nat.pow_le_pow_right (by decide) h⟩
/-- whether such DESKS do it -/
def z_do (A : ZA) (P : ZP) (i b : Nat) (st : Int32) (x : Nat) : Bool :=
  if st = 0 then decide ((r_v A (z_su P (2 ^ (A 0 3) - 1 - x) 99 0 0) b).2.1 i = A 0 0 - 1)
  else decide ((r_v A (z_su P x 99 0 0) b).1 ((r_v A (z_su P x 99 0 0) b).2.1 i) < A 8 i)
def z_best (Q : Nat → Bool) (n x : Nat) : Prop := x < n ∧ Q x = true ∧ ∀ y, y < n → Q y = true → z_bn x < z_bn y ∨ (z_bn x = z_bn y ∧ x ≤ y)
theorem z_best_u {Q : Nat → Bool} {n x y : Nat} (h : z_best Q n x) (k : z_best Q n y) : x = y := by
  have h1 := h.2.2 y k.1 k.2.1
  have h2 := k.2.2 x h.1 h.2.1
  omega
/-- the frame of what is supposed in the reference -/
def z_VK (M M' : SM) : Prop := z_Fr (fun i => i ≠ 366 ∧ i ≠ 399 ∧ i ≠ 400) M M' ∧ (∀ k, k < 47 ∨ 58 < k → M'.1 366 k = M.1 366 k)
theorem z_VK.rf {M : SM} : z_VK M M := ⟨z_Fr.rf, fun _ _ => rfl⟩
theorem z_VK.tr {M M' M'' : SM} (h : z_VK M M') (k : z_VK M' M'') : z_VK M M'' := ⟨h.1.tr k.1, fun i p => (k.2 i p).trans (h.2 i p)⟩
theorem z_QK.vk {M M' : SM} (h : z_QK M M') : z_VK M M' := ⟨h.1, fun k q => h.2 k (by omega)⟩
theorem z_VK.s {M M' : SM} {k : Nat} {v : Int32} (h : z_VK M M') (h1 : 47 ≤ k) (h2 : k ≤ 51) : z_VK M (sI M' 366 k v) := ⟨h.1.sI (by omega), fun j q => by rw [z_sIk _ _ _ _ (by omega)]; exact h.2 j q⟩
theorem z_OR.vk {A : ZA} {M M' : SM} (h : z_OR A M) (k : z_VK M M') : z_OR A M' := h.fr (k.2 31 (by decide)) (fun i h1 h2 h3 => k.1.1 i (by omega))
theorem z_TR.vk {n : Nat} {P : ZP} {M M' : SM} (h : z_TR n P M) (k : z_VK M M') : z_TR n P M' := h.fr (k.1.1 391 (by decide))
theorem z_MB.vk {A : ZA} {nm : Nat → Nat → Nat} {P : ZP} {N N' : SM} (h : z_MB A nm P N) (k : z_VK N N') (hS : z_NS N') : z_MB A nm P N' :=
  ⟨h.1.vk k, h.2.1.vk k, fun q => (h.2.2.1 q).fr (fun i a1 a2 => k.1.1 i (by omega)), hS, fun i w hi hw => by rw [k.1.2]; exact h.2.2.2.2 i w hi hw⟩
section
variable {o : Nat} {A : ZA} {nm : Nat → Nat → Nat} {P : ZP} {M N : SM} {b i : Nat}
theorem c_silent {s : Nat} (hW : z_WB A nm P) (h : z_CB o A nm P M) (h0 : 0 < A 0 0) (hs : s < 256) (hb : b ≤ 60) :
    z_ok (f_Sp_playSilent 0 (nI s) (nI b) M) (fun M' => (∃ pf : Nat → Nat, z_P3 A (r_v A (z_su P s 99 0 0) b).1 (r_v A (z_su P s 99 0 0) b).2.1 pf M') ∧ z_Fr (fun i => i < 319 ∨ 321 < i) M M') := by
  have hd8 := hW.1.2.1
  unfold f_Sp_playSilent
  rw [jp_0_7, jp_0_6]
  refine z_bind (c_begin (b := 0) hW h h0 (by decide)) (fun M1 h1 => ?_)
  obtain ⟨⟨pf, P1, P1'⟩, F1, g7, g8, g9, g10⟩ := h1
  have hC1 : z_CB o A nm P (sI M1 319 7 (nI s)) := h.fr hW (F1.sI (by omega))
  have hP1 : z_P3 A (r_v A (z_su P s 99 0 0) 0).1 (r_v A (z_su P s 99 0 0) 0).2.1 pf (sI M1 319 7 (nI s)) := ⟨fun c hc => P1.1 c hc, fun c hc => P1.2.1 c hc, fun k hk => by rw [z_sIk _ _ _ _ (by omega)]; exact P1.2.2 k hk⟩
  refine z_bind (c_plays (lp := lp_Sp_playSilent_22 0 (nI b)) (y := b) (b0 := 0) (al := z_su P s 99 0 0) hW.1 (hW.2.2.1 h0) h.1 hC1.2.1 hC1.2.2.1 (fun n x M' => by rw [lp_Sp_playSilent_22]) rfl (by omega) (Nat.zero_le _) hP1 P1' (fun b d hd => z_su_b hW.2.1 hd) (fun b' q1 q2 M' hK d hd => ?_)) (fun M3 h3 => z_some ⟨⟨_, h3.1.choose_spec.1⟩, (F1.sI (by omega)).tr h3.2.1⟩)
  have hT : z_TC o (A 0 3) P M' := hC1.2.2.2.1.fr hd8 (fun i a1 a2 => hK.1.1 i (by have := h.1; omega))
  exact c_act h.1 hd8 hW.2.1 hT hs ((hK.2 7 (by decide)).trans (z_sIs _ _ _ _)) (Or.inr ⟨(hK.2 8 (by decide)).trans ((z_sIk _ _ _ _ (by decide)).trans g8), by decide⟩) (by decide) (by decide) ((hK.2 9 (by decide)).trans ((z_sIk _ _ _ _ (by decide)).trans g9)) ((hK.2 10 (by decide)).trans ((z_sIk _ _ _ _ (by decide)).trans g10)) hd (Nat.zero_le _) (by omega)
theorem c_few63 {n : Nat} {what st : Int32} (hW : z_WB A nm P) (h : z_CB o A nm P M) (hi : i < A 0 5) (hb : b ≤ 60) (hn : n ≤ 8) :
    z_ok (lp_Sp_fewest_63 0 (nI i) (nI b) what st (nI (2 ^ (A 0 3) - 1)) (nI n) jfuel 0 M) (fun t => match t with
      | .inl M' => z_Fr (fun i => i < 319 ∨ 321 < i) M M' ∧ ∀ x, x < 2 ^ (A 0 3) → z_bn x = n → z_do A P i b st x = false
      | .inr (v, M') => z_Fr (fun i => i < 319 ∨ 321 < i) M M' ∧ ∃ x, x < 2 ^ (A 0 3) ∧ z_bn x = n ∧ z_do A P i b st x = true ∧ (∀ y, y < x → z_bn y = n → z_do A P i b st y = false) ∧ v = if what = 0 then nI n else nI x) := by
  have hd8 := hW.1.2.1
  have h00 : 0 < A 0 0 := Nat.pos_of_ne_zero (fun e => by have := (hW.2.2.2.1 e).2.2.1; omega)
  obtain ⟨hp1, hp2⟩ := z_pow8 hd8
  have hR := hW.2.2.1 h00
  show z_ok (lp_Sp_fewest_63 0 (nI i) (nI b) what st (nI (2 ^ (A 0 3) - 1)) (nI n) jfuel (nI 0) M) _
  refine z_loop (fun m c s => lp_Sp_fewest_63 0 (nI i) (nI b) what st (nI (2 ^ (A 0 3) - 1)) (nI n) m c s) (fun c M' => z_Fr (fun i => i < 319 ∨ 321 < i) M M' ∧ ∀ x, x < c → z_bn x = n → z_do A P i b st x = false) _ (2 ^ (A 0 3)) ?_ ?_ jfuel 0 M (by omega) (by rw [z_jf]; omega) ⟨z_Fr.rf, fun x hx => by omega⟩
  · intro m c M' hc hI k
    obtain ⟨hF, hQ⟩ := hI
    have hC' := h.fr hW hF
    show z_ok (lp_Sp_fewest_63 0 (nI i) (nI b) what st (nI (2 ^ (A 0 3) - 1)) (nI n) (m + 1) (nI c) M') _
    rw [lp_Sp_fewest_63]
    refine z_neg (nI_nlt (by omega) (by omega)) ?_
    refine z_eq (z_bc c (by omega)) ?_
    have hpc := z_bnb (A 0 3) hd8 c hc
    rw [nI_1]
    refine z_ee _ _ rfl rfl (by omega) (by omega) (fun e => ?_) (fun e => k M' ⟨hF, fun x hx hxn => ?_⟩)
    · refine z_eq (r := nI (if st = 0 then 2 ^ (A 0 3) - 1 - c else c)) ?_ ?_
      · by_cases q : st = 0
        · rw [if_pos q, if_pos q, z_sub (by omega)]
        · rw [if_neg q, if_neg q]
      refine z_bind (c_silent hW hC' h00 (by split <;> omega) hb) (fun M1 h1 => ?_)
      obtain ⟨⟨pf, P1⟩, F1⟩ := h1
      have hC1 := hC'.fr hW F1
      refine z_eq (r := if z_do A P i b st c then 1 else 0) ?_ ?_
      · rw [jp_0_7, hC1.2.1]
        unfold z_do
        have G1 := r_v_G (A := A) (al := z_su P (if st = 0 then 2 ^ (A 0 3) - 1 - c else c) 99 0 0) hW.1 b
        by_cases q : st = 0
        · simp only [if_pos q] at P1 G1 ⊢
          rw [c_last hW.1 hR hC1.2.2.1.1 P1 G1.2 hi]
          by_cases r : (r_v A (z_su P (2 ^ (A 0 3) - 1 - c) 99 0 0) b).2.1 i = A 0 0 - 1
          · rw [if_pos r, decide_eq_true r]; rfl
          · rw [if_neg r, decide_eq_false r]; rfl
        · simp only [if_neg q] at P1 G1 ⊢
          rw [c_aground h.1 hW.1 hC1.2.2.1 P1 (fun c hc => Nat.le_trans (G1.1 c hc) (by decide)) G1.2 hi]
          by_cases r : (r_v A (z_su P c 99 0 0) b).1 ((r_v A (z_su P c 99 0 0) b).2.1 i) < A 8 i
          · rw [if_pos r, decide_eq_true r]; rfl
          · rw [if_neg r, decide_eq_false r]; rfl
      · cases hq : z_do A P i b st c with
        | false =>
          refine z_pos rfl (k M1 ⟨hF.tr F1, fun x hx hxn => ?_⟩)
          by_cases e2 : x = c
          · rw [e2]; exact hq
          · exact hQ x (by omega) hxn
        | true =>
          refine z_neg (by decide) ?_
          by_cases q : what = 0
          · exact z_pos q (z_some ⟨hF.tr F1, c, hc, e, hq, fun y hy => hQ y hy, by rw [if_pos q]⟩)
          · exact z_neg q (z_some ⟨hF.tr F1, c, hc, e, hq, fun y hy => hQ y hy, by rw [if_neg q]⟩)
    · by_cases e2 : x = c
      · subst e2; exact absurd hxn e
      · exact hQ x (by omega) hxn
  · intro m M' hI
    show z_ok (lp_Sp_fewest_63 0 (nI i) (nI b) what st (nI (2 ^ (A 0 3) - 1)) (nI n) (m + 1) (nI (2 ^ (A 0 3))) M') _
    rw [lp_Sp_fewest_63]
    exact z_pos (nI_lt (by omega) (by omega)) (z_some hI)
theorem c_few48 {what st : Int32} (hW : z_WB A nm P) (h : z_CB o A nm P M) (hi : i < A 0 5) (hb : b ≤ 60) :
    z_ok (lp_Sp_fewest_48 0 (nI i) (nI b) what st (nI (2 ^ (A 0 3) - 1)) jfuel 0 M) (fun t => match t with
      | .inl M' => z_Fr (fun i => i < 319 ∨ 321 < i) M M' ∧ ∀ x, x < 2 ^ (A 0 3) → z_do A P i b st x = false
      | .inr (v, M') => z_Fr (fun i => i < 319 ∨ 321 < i) M M' ∧ ∃ x, z_best (z_do A P i b st) (2 ^ (A 0 3)) x ∧ v = if what = 0 then nI (z_bn x) else nI x) := by
  have hd8 := hW.1.2.1
  show z_ok (lp_Sp_fewest_48 0 (nI i) (nI b) what st (nI (2 ^ (A 0 3) - 1)) jfuel (nI 0) M) _
  refine z_loop (fun m c s => lp_Sp_fewest_48 0 (nI i) (nI b) what st (nI (2 ^ (A 0 3) - 1)) m c s) (fun c M' => z_Fr (fun i => i < 319 ∨ 321 < i) M M' ∧ ∀ x, x < 2 ^ (A 0 3) → z_bn x < c → z_do A P i b st x = false) _ (A 0 3 + 1) ?_ ?_ jfuel 0 M (by omega) (by rw [z_jf]; omega) ⟨z_Fr.rf, fun x _ hx => by omega⟩
  · intro m c M' hc hI k
    obtain ⟨hF, hQ⟩ := hI
    have hC' := h.fr hW hF
    show z_ok (lp_Sp_fewest_48 0 (nI i) (nI b) what st (nI (2 ^ (A 0 3) - 1)) (m + 1) (nI c) M') _
    rw [lp_Sp_fewest_48, hC'.2.1, hC'.2.2.1.2.2.2.1]
    refine z_neg (nI_nlt (by omega) (by omega)) ?_
    refine z_jsb (c_few63 (n := c) hW hC' hi hb (by omega)) (fun M1 h1 => ?_) (fun r h1 => ?_)
    · rw [nI_1]
      refine k M1 ⟨hF.tr h1.1, fun x hx hxc => ?_⟩
      by_cases e : z_bn x = c
      · exact h1.2 x hx e
      · exact hQ x hx (by omega)
    · obtain ⟨v, M1⟩ := r
      obtain ⟨F1, x, x1, x2, x3, x4, x5⟩ := h1
      refine ⟨hF.tr F1, x, ⟨x1, x3, fun y hy hyq => ?_⟩, by rw [x2]; exact x5⟩
      by_cases e : z_bn y < c
      · have := hQ y hy e
        rw [this] at hyq; cases hyq
      · by_cases e2 : z_bn y = c
        · refine Or.inr ⟨by omega, Nat.not_lt.mp (fun q => ?_)⟩
          have := x4 y q e2
          rw [this] at hyq; cases hyq
        · exact Or.inl (by omega)
  · intro m M' hI
    have hC' := h.fr hW hI.1
    show z_ok (lp_Sp_fewest_48 0 (nI i) (nI b) what st (nI (2 ^ (A 0 3) - 1)) (m + 1) (nI (A 0 3 + 1)) M') _
    rw [lp_Sp_fewest_48, hC'.2.1, hC'.2.2.1.2.2.2.1]
    refine z_pos (nI_lt (by omega) (by omega)) (z_some ⟨hI.1, fun x hx => hI.2 x hx (by have := z_bnb (A 0 3) hd8 x hx; omega)⟩)
theorem m_isSo {s : Nat} {st : Int32} (hW : z_WB A nm P) (h : z_MB A nm P N) (hi : i < A 0 5) (hb : b ≤ 60) (hs : s < 256) :
    z_ok (f_Mo_isSo 366 (nI i) (nI b) st (sI N 366 47 (nI s))) (fun r => r.1 = (if (if st = 0 then decide ((r_v A (z_su P s 99 0 0) b).2.1 i = A 0 0 - 1) else decide ((r_v A (z_su P s 99 0 0) b).1 ((r_v A (z_su P s 99 0 0) b).2.1 i) < A 8 i)) then 1 else 0) ∧ z_VK N r.2 ∧ r.2.1 366 48 = -1 ∧ r.2.1 366 50 = -1) := by
  have h00 : 0 < A 0 0 := Nat.pos_of_ne_zero (fun e => by have := (hW.2.2.2.1 e).2.2.1; omega)
  have hR := hW.2.2.1 h00
  have w4 := hW.1.2.2.2.1
  have hc0 := hW.1.1
  have hR1 := hR.1
  have hV : z_VK N (sI N 366 47 (nI s)) := z_VK.rf.s (by decide) (by decide)
  unfold f_Mo_isSo
  refine z_bind (m_goesTo (s := s) (h := 99) (l := 0) hW.1 hR (h.1.vk hV) hW.2.1 (h.2.1.vk hV) hs (z_sIs _ _ _ _) (Or.inr ⟨(z_sIk _ _ _ _ (by decide)).trans h.2.2.2.1.2.1, by decide⟩) (by decide) (by decide) ((z_sIk _ _ _ _ (by decide)).trans h.2.2.2.1.2.2) hb) (fun N1 h1 => ?_)
  obtain ⟨⟨pf, P1⟩, K1⟩ := h1
  have hO1 := (h.1.vk hV).qk K1
  have G1 := r_v_G (A := A) (al := z_su P s 99 0 0) hW.1 b
  have hc := G1.2 i hi
  have hw := G1.1 _ hc
  have h8 := (hW.1.2.2.2.2.2.2.2.2.2.2.1 i hi).2
  have hV1 : z_VK N N1 := hV.tr K1.vk
  have f48 : N1.1 366 48 = -1 := (K1.2 48 (by decide)).trans ((z_sIk _ _ _ _ (by decide)).trans h.2.2.2.1.2.1)
  have f50 : N1.1 366 50 = -1 := (K1.2 50 (by decide)).trans ((z_sIk _ _ _ _ (by decide)).trans h.2.2.2.1.2.2)
  rw [jm_53, jm_52]
  by_cases q : st = 0
  · refine z_pos q ?_
    simp only [if_pos q]
    refine z_eq (zi_400 _ (by omega)) ?_
    rw [P1.2.1 i hi, hO1.1, z_ls (by omega)]
    refine z_ee _ _ rfl rfl (by omega) (by omega) (fun e => z_some ⟨?_, hV1, f48, f50⟩) (fun e => z_some ⟨?_, hV1, f48, f50⟩)
    · rw [decide_eq_true e]; rfl
    · rw [decide_eq_false e]; rfl
  · refine z_neg q ?_
    simp only [if_neg q]
    refine z_eq (zi_400 _ (by omega)) ?_
    rw [P1.2.1 i hi]
    refine z_eq (zi_399 _ (by omega)) ?_
    rw [P1.1 _ hc]
    refine z_eq (m_draft hW.1 hO1 hi) ?_
    refine z_lt _ _ rfl rfl (by omega) (by omega) (fun e => z_some ⟨?_, hV1, f48, f50⟩) (fun e => z_some ⟨?_, hV1, f48, f50⟩)
    · rw [decide_eq_true e]; rfl
    · rw [decide_eq_false (Nat.not_lt.mpr e)]; rfl
theorem m_least {st : Int32} (hW : z_WB A nm P) (h : z_MB A nm P N) (hi : i < A 0 5) (hb : b ≤ 60) :
    z_ok (f_Mo_leastSet 366 (nI i) (nI b) st N) (fun r => ((r.1 = -1 ∧ ∀ x, x < 2 ^ (A 0 3) → z_do A P i b st x = false) ∨ ∃ x, z_best (z_do A P i b st) (2 ^ (A 0 3)) x ∧ r.1 = nI x) ∧ z_VK N r.2 ∧ z_NS r.2) := by
  have hd8 := hW.1.2.1
  obtain ⟨hp1, hp2⟩ := z_pow8 hd8
  unfold f_Mo_leastSet
  refine z_eq (m_desks hW.1 h.1) ?_
  rw [z_all _ hd8]
  refine z_bind (P := fun r : Int32 × SM => ((r.1 = -1 ∧ ∀ x, x < 2 ^ (A 0 3) → z_do A P i b st x = false) ∨ ∃ x, z_best (z_do A P i b st) (2 ^ (A 0 3)) x ∧ r.1 = nI x) ∧ z_VK N r.2 ∧ r.2.1 366 48 = -1 ∧ r.2.1 366 50 = -1) ?_ (fun r hr => z_some ⟨hr.1, hr.2.1.s (by decide) (by decide), z_sIs _ _ _ _, (z_sIk _ _ _ _ (by decide)).trans hr.2.2.1, (z_sIk _ _ _ _ (by decide)).trans hr.2.2.2⟩)
  show z_ok ((fun n c (s : Int32 × SM) => lp_Mo_leastSet_16 366 (nI i) (nI b) st (nI (2 ^ (A 0 3) - 1)) n s.1 c s.2) jfuel (nI 0) (-1, N)) _
  refine z_loop (σ := Int32 × SM) (τ := Int32 × SM) (fun n c (s : Int32 × SM) => lp_Mo_leastSet_16 366 (nI i) (nI b) st (nI (2 ^ (A 0 3) - 1)) n s.1 c s.2) (fun c r => ((r.1 = -1 ∧ ∀ x, x < c → z_do A P i b st x = false) ∨ ∃ x, z_best (z_do A P i b st) c x ∧ r.1 = nI x) ∧ z_VK N r.2 ∧ r.2.1 366 48 = -1 ∧ r.2.1 366 50 = -1) _ (2 ^ (A 0 3)) ?_ ?_ jfuel 0 (-1, N) (by omega) (by rw [z_jf]; omega) ⟨Or.inl ⟨rfl, fun x hx => by omega⟩, z_VK.rf, h.2.2.2.1.2.1, h.2.2.2.1.2.2⟩
  · intro n c r hc hI k
    obtain ⟨x5, N'⟩ := r
    obtain ⟨hB, hV, f48, f50⟩ := hI
    have hV : z_VK N N' := hV
    -- the reference's river of a set
    have key : z_ok ((if st = 0 then some (nI (2 ^ (A 0 3) - 1) &&& (nI c ^^^ (-1))) else some (nI c) : Option Int32).bind fun q5 => (f_Mo_isSo 366 (nI i) (nI b) st (sI N' 366 47 q5)).bind fun q7 => if q7.1 = 0 then some (x5, q7.2) else some (nI c, q7.2)) (fun r => r.1 = (if z_do A P i b st c then nI c else x5) ∧ z_VK N r.2 ∧ r.2.1 366 48 = -1 ∧ r.2.1 366 50 = -1) := by
      refine z_eq (r := nI (if st = 0 then 2 ^ (A 0 3) - 1 - c else c)) ?_ ?_
      · by_cases q : st = 0
        · rw [if_pos q, if_pos q, z_not _ hd8 c hc]
        · rw [if_neg q, if_neg q]
      have hN' : z_MB A nm P (sI N' 366 47 (nI 0)) := h.vk (hV.s (by decide) (by decide)) ⟨z_sIs _ _ _ _, (z_sIk _ _ _ _ (by decide)).trans f48, (z_sIk _ _ _ _ (by decide)).trans f50⟩
      have e1 : ∀ v, sI (sI N' 366 47 (nI 0)) 366 47 v = sI N' 366 47 v := fun v => by
        unfold sI
        congr 1
        funext a k
        by_cases q : a = 366
        · by_cases q2 : k = 47
          · simp only [if_pos q, if_pos q2]
          · simp only [if_pos q, if_neg q2]
        · simp only [if_neg q]
      have e2 := m_isSo (s := if st = 0 then 2 ^ (A 0 3) - 1 - c else c) (st := st) hW hN' hi hb (by split <;> omega)
      rw [e1] at e2
      refine z_bind e2 (fun r hr => ?_)
      obtain ⟨r1, r2, r3, r4⟩ := hr
      have hV2 : z_VK N r.2 := (hV.s (by decide) (by decide)).tr r2
      have e3 : r.1 = if z_do A P i b st c then 1 else 0 := by
        rw [r1]
        unfold z_do
        by_cases q : st = 0
        · simp only [if_pos q]
        · simp only [if_neg q]
      cases hq : z_do A P i b st c with
      | false => rw [e3, hq]; exact z_pos rfl (z_some ⟨rfl, hV2, r3, r4⟩)
      | true => rw [e3, hq]; exact z_neg (by decide) (z_some ⟨rfl, hV2, r3, r4⟩)
    show z_ok (lp_Mo_leastSet_16 366 (nI i) (nI b) st (nI (2 ^ (A 0 3) - 1)) (n + 1) x5 (nI c) N') _
    rw [lp_Mo_leastSet_16]
    refine z_neg (nI_nlt (by omega) (by omega)) ?_
    refine z_bind (P := fun r : Int32 × SM => ((r.1 = -1 ∧ ∀ x, x < c + 1 → z_do A P i b st x = false) ∨ ∃ x, z_best (z_do A P i b st) (c + 1) x ∧ r.1 = nI x) ∧ z_VK N r.2 ∧ r.2.1 366 48 = -1 ∧ r.2.1 366 50 = -1) ?_ (fun r hr => by rw [nI_1]; exact k r hr)
    rcases hB with ⟨hx, hno⟩ | ⟨x, hx1, hx⟩
    · refine z_pos hx (z_mono key (fun r hr => ⟨?_, hr.2⟩))
      rw [hr.1]
      cases hq : z_do A P i b st c with
      | false => exact Or.inl ⟨hx, fun y hy => by by_cases e : y = c; rw [e]; exact hq; exact hno y (by omega)⟩
      | true =>
        refine Or.inr ⟨c, ⟨by omega, hq, fun y hy hyq => ?_⟩, rfl⟩
        by_cases e : y = c
        · subst e; omega
        · have := hno y (by omega); rw [this] at hyq; cases hyq
    · have hx : x5 = nI x := hx
      have hxc := hx1.1
      have b1 := z_bnb (A 0 3) hd8 c hc
      have b2 := z_bnb (A 0 3) hd8 x (by omega)
      rw [hx]
      refine z_neg (z_neg1 (by omega)) ?_
      refine z_eq (z_bs c (by omega)) ?_
      refine z_eq (z_bs x (by omega)) ?_
      rw [← hx]
      refine z_lt _ _ rfl rfl (by omega) (by omega) (fun e => z_mono key (fun r hr => ⟨?_, hr.2⟩)) (fun e => z_some ⟨Or.inr ⟨x, ⟨by omega, hx1.2.1, fun y hy hyq => ?_⟩, hx⟩, hV, f48, f50⟩)
      · rw [hr.1]
        cases hq : z_do A P i b st c with
        | false =>
          refine Or.inr ⟨x, ⟨by omega, hx1.2.1, fun y hy hyq => ?_⟩, hx⟩
          by_cases e : y = c
          · rw [e, hq] at hyq; cases hyq
          · exact hx1.2.2 y (by omega) hyq
        | true =>
          refine Or.inr ⟨c, ⟨by omega, hq, fun y hy hyq => ?_⟩, rfl⟩
          by_cases e2 : y = c
          · subst e2; omega
          · have := hx1.2.2 y (by omega) hyq; omega
      · by_cases e2 : y = c
        · subst e2; omega
        · exact hx1.2.2 y (by omega) hyq
  · intro n r hI
    obtain ⟨x5, N'⟩ := r
    show z_ok (lp_Mo_leastSet_16 366 (nI i) (nI b) st (nI (2 ^ (A 0 3) - 1)) (n + 1) x5 (nI (2 ^ (A 0 3))) N') _
    rw [lp_Mo_leastSet_16]
    exact z_pos (nI_lt (by omega) (by omega)) (z_some hI)
/-- stop and bring -/
theorem g_few {st : Int32} (hW : z_WB A nm P) (h : z_CB o A nm P M) (k : z_MB A nm P N) (x y z : Int32) : ∃ v M' N', f_Sp_fewest 0 x y z st M = some (v, M') ∧ f_Mo_setTold 366 x y z st N = some (v, N') ∧ z_Fr (fun i => i < 319 ∨ 321 < i) M M' ∧ z_VK N N' ∧ z_NS N' := by
  have hd8 := hW.1.2.1
  have h5 := hW.1.2.2.2.1
  have ho := h.1
  have hS := k.2.2.2.1
  obtain ⟨hp1, hp2⟩ := z_pow8 hd8
  unfold f_Sp_fewest f_Mo_setTold
  rw [h.2.1, jo_11 ho, c_holds h.2.2.1.2.2.2.2.2.1, m_isBoat hW k, c_isBar, m_isBar, h.2.2.1.2.2.2.1, z_all _ hd8]
  simp only [Option.bind_some]
  by_cases q : z_q x (A 0 5)
  · rw [z_b1 q, z_b1 q]
    by_cases r : z_q y 61
    · rw [z_b1 r, z_b1 r, show (1 : Int64) = lN 1 from rfl, z_isM z 1 (by decide)]
      simp only [Option.bind_some]
      have e2 : (1 : Int32) < z ↔ ¬ z < nI 2 := by
        rw [Int32.lt_iff_toInt_lt, Int32.lt_iff_toInt_lt]
        show (1 : Int) < _ ↔ ¬ _ < (2 : Int)
        omega
      by_cases t : z_q z 2
      · rw [z_b1 t, if_neg t.1, if_neg (fun u => (e2.mp u) t.2)]
        obtain ⟨i, hi, rfl⟩ := z_q_of (by omega) q
        obtain ⟨b, hb, rfl⟩ := z_q_of (by decide) r
        obtain ⟨tc, ec, pc⟩ := c_few48 (what := z) (st := st) hW h hi (b := b) (by omega)
        obtain ⟨⟨v, N'⟩, em, pm, pv, pn⟩ := m_least (st := st) hW k hi (b := b) (by omega)
        rw [ec, em]
        simp only [Option.bind_some]
        cases tc with
        | inl M' =>
          obtain ⟨F, hno⟩ := pc
          have hv : v = -1 := by
            rcases pm with pm | ⟨x, px, _⟩
            · exact pm.1
            · have := hno x px.1; rw [px.2.1] at this; cases this
          rw [if_pos hv]
          exact ⟨-1, M', N', rfl, rfl, F, pv, pn⟩
        | inr w =>
          obtain ⟨u, M'⟩ := w
          obtain ⟨F, x, px, hu⟩ := pc
          have hv : v = nI x := by
            rcases pm with pm | ⟨x', px', e⟩
            · have := pm.2 x px.1; rw [px.2.1] at this; cases this
            · rw [z_best_u px px']; exact e
          have hx := px.1
          rw [hv, if_neg (z_neg1 (by omega)), z_bs x (by omega)]
          refine ⟨u, M', N', rfl, ?_, F, pv, pn⟩
          by_cases e : z = 0
          · rw [if_pos e] at hu; rw [if_pos e, hu]; rfl
          · rw [if_neg e] at hu; rw [if_neg e, hu]
      · rw [z_b0 t]
        by_cases t1 : z < 0
        · rw [if_pos t1]; exact ⟨_, M, N, rfl, rfl, z_Fr.rf, z_VK.rf, hS⟩
        · rw [if_neg t1, if_pos (e2.mpr (fun u => t ⟨t1, u⟩))]; exact ⟨_, M, N, rfl, rfl, z_Fr.rf, z_VK.rf, hS⟩
    · rw [z_b0 r, z_b0 r]; exact ⟨_, M, N, rfl, rfl, z_Fr.rf, z_VK.rf, hS⟩
  · rw [z_b0 q, z_b0 q]; exact ⟨_, M, N, rfl, rfl, z_Fr.rf, z_VK.rf, hS⟩
end
