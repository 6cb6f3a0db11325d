/-! ===== pure: the reference's river ===== -/
def z_QK (M M' : SM) : Prop := z_Fr (fun i => i ≠ 366 ∧ i ≠ 399 ∧ i ≠ 400) M M' ∧ (∀ k, k < 54 ∨ 58 < k → M'.1 366 k = M.1 366 k)
theorem z_QK.rf {M : SM} : z_QK M M := ⟨z_Fr.rf, fun _ _ => rfl⟩
theorem z_QK.tr {M M' M'' : SM} (h : z_QK M M') (k : z_QK M' M'') : z_QK M M'' := ⟨h.1.tr k.1, fun i p => (k.2 i p).trans (h.2 i p)⟩
theorem z_QK.w {M M' : SM} {k : Nat} {v : Int32} (h : z_QK M M') : z_QK M (sI M' 399 k v) := ⟨h.1.sI (by omega), fun i p => by rw [z_sIa _ _ _ _ (by decide)]; exact h.2 i p⟩
theorem z_QK.b {M M' : SM} {k : Nat} {v : Int32} (h : z_QK M M') : z_QK M (sI M' 400 k v) := ⟨h.1.sI (by omega), fun i p => by rw [z_sIa _ _ _ _ (by decide)]; exact h.2 i p⟩
theorem z_QK.p {M M' : SM} {k : Nat} {v : Int32} (h : z_QK M M') (hk : 54 ≤ k) (hk2 : k ≤ 58) : z_QK M (sI M' 366 k v) := ⟨h.1.sI (by omega), fun i p => by rw [z_sIk _ _ _ _ (by omega)]; exact h.2 i p⟩
theorem z_OR.qk {A : ZA} {M M' : SM} (h : z_OR A M) (k : z_QK M M') : z_OR A M' := h.fr (k.2 31 (by decide)) (fun i h1 h2 h3 => k.1.1 i (by omega))
/-- w, boats bt, pf: 0 trilled 1 came 2 ran out 3 drunk 4 spilt -/
def z_Q3 (A : ZA) (w bt pf : Nat → Nat) (M : SM) : Prop := (∀ c, c < A 0 0 → M.1 399 c = nI (w c)) ∧ (∀ i, i < A 0 5 → M.1 400 i = nI (bt i)) ∧ (∀ k, k < 5 → M.1 366 (54 + k) = nI (pf k))
theorem z_Q3.w {A : ZA} {w bt pf : Nat → Nat} {M : SM} (h : z_Q3 A w bt pf M) (k v : Nat) : z_Q3 A (z_u w k v) bt pf (sI M 399 k (nI v)) := by
  refine ⟨fun c hc => ?_, fun i hi => ?_, fun j hj => ?_⟩
  · by_cases e : c = k
    · subst e; rw [z_sIs, z_us]
    · rw [z_sIk _ _ _ _ e, z_un _ _ _ e]; exact h.1 c hc
  · rw [z_sIa _ _ _ _ (by decide)]; exact h.2.1 i hi
  · rw [z_sIa _ _ _ _ (by decide)]; exact h.2.2 j hj
theorem z_Q3.b {A : ZA} {w bt pf : Nat → Nat} {M : SM} (h : z_Q3 A w bt pf M) (k v : Nat) : z_Q3 A w (z_u bt k v) pf (sI M 400 k (nI v)) := by
  refine ⟨fun c hc => ?_, fun i hi => ?_, fun j hj => ?_⟩
  · rw [z_sIa _ _ _ _ (by decide)]; exact h.1 c hc
  · by_cases e : i = k
    · subst e; rw [z_sIs, z_us]
    · rw [z_sIk _ _ _ _ e, z_un _ _ _ e]; exact h.2.1 i hi
  · rw [z_sIa _ _ _ _ (by decide)]; exact h.2.2 j hj
theorem z_Q3.p {A : ZA} {w bt pf : Nat → Nat} {M : SM} (h : z_Q3 A w bt pf M) (k v : Nat) : z_Q3 A w bt (z_u pf k v) (sI M 366 (54 + k) (nI v)) := by
  refine ⟨fun c hc => ?_, fun i hi => ?_, fun j hj => ?_⟩
  · rw [z_sIa _ _ _ _ (by decide)]; exact h.1 c hc
  · rw [z_sIa _ _ _ _ (by decide)]; exact h.2.1 i hi
  · by_cases e : j = k
    · subst e; rw [z_sIs, z_us]
    · rw [z_sIk _ _ _ _ (by omega), z_un _ _ _ e]; exact h.2.2 j hj
theorem z_Q3.cg {A : ZA} {w bt pf w' bt' pf' : Nat → Nat} {M : SM} (h : z_Q3 A w bt pf M) (h1 : w = w') (h2 : bt = bt') (h3 : ∀ k, k < 5 → pf k = pf' k) : z_Q3 A w' bt' pf' M := by
  subst h1; subst h2
  exact ⟨h.1, h.2.1, fun k hk => by rw [← h3 k hk]; exact h.2.2 k hk⟩
section
variable {A : ZA} {M : SM} {w bt pf : Nat → Nat} {al : Nat → Nat → Nat} {b : Nat}
theorem m_desks (hW : z_W A) (hO : z_OR A M) : f_Mo_deskMany 366 M = some (nI (A 0 3)) := by
  unfold f_Mo_deskMany
  rw [jm_28, zl_4, zi_385 M (by decide), hO.2.2.2.1]; rfl
theorem m_flows (hW : z_W A) (hO : z_OR A M) (hP : z_Q3 A w bt pf M) (ht : pf 0 ≤ 1) (hs : z_sum (A 0 0) w ≤ 1260) {c : Nat} (hc : c + 1 < A 0 0) :
    z_ok (f_Mo_flows 366 (nI c) M) (fun M' => z_Q3 A (r_fl A (pf 0) c w) bt pf M' ∧ z_QK M M') := by
  have hc0 := hW.1
  have hv1 : w c ≤ 1260 := Nat.le_trans (z_sum_le (by omega)) hs
  have hv2 : w (c + 1) ≤ 1260 := Nat.le_trans (z_sum_le hc) hs
  have hb1 := (hW.2.2.2.2.2.2.2.1 c (by omega)).1
  have hb2 := (hW.2.2.2.2.2.2.2.1 (c + 1) hc).1
  have hs3 := (hW.2.2.2.2.2.2.2.1 c (by omega)).2.2
  have g1 := hO.2.2.2.2.2.2.2.1 c (by omega)
  have g2 := hO.2.2.2.2.2.2.2.1 (c + 1) hc
  unfold f_Mo_flows
  rw [jm_32, jm_52, jm_34, zl_12, nI_add, nI_1, nI_1]
  refine z_eq (zi_387 _ (by omega)) ?_
  refine z_eq (zi_399 _ (by omega)) ?_
  refine z_eq (zi_387 _ (by omega)) ?_
  refine z_eq (zi_399 _ (by omega)) ?_
  rw [hP.1 c (by omega), hP.1 (c + 1) hc, g1.1, show 12 + c + 1 = 12 + (c + 1) by omega, g2.1]
  have e : nI (A 1 c) + nI (w c) - nI (A 1 (c + 1)) - nI (w (c + 1)) = nI (A 1 c + w c) - nI (A 1 (c + 1) + w (c + 1)) := by
    rw [nI_add, ← nI_add (A 1 (c + 1))]
    generalize nI (A 1 c + w c) = x
    generalize nI (A 1 (c + 1)) = y
    generalize nI (w (c + 1)) = z
    rw [Int32.sub_eq_add_neg, Int32.sub_eq_add_neg, Int32.sub_eq_add_neg, Int32.neg_add, Int32.sub_eq_add_neg, Int32.add_assoc]
  rw [e]
  refine z_ite (fun h => ?_) (fun h => ?_)
  · have h1 := (z_abv (by omega) (by omega)).mp h
    have h54 : M.1 366 54 = nI (pf 0) := hP.2.2 0 (by decide)
    have key : ∀ (hsh : ¬ (pf 0 = 1 ∧ A 3 c = 1)), z_ok ((aI M 399 (nI c)).bind fun v7 => (if v7 < ((nI (A 1 c + w c) - nI (A 1 (c + 1) + w (c + 1))) / 2) then ((aI M 399 (nI c)).bind fun v10 => some v10) else (some ((nI (A 1 c + w c) - nI (A 1 (c + 1) + w (c + 1))) / 2)) : Option (Int32)).bind fun q8 => (aI M 399 (nI c)).bind fun v11 => (aS M 399 (nI c) (v11 - q8)).bind fun M12 => (aI M12 399 (nI (c + 1))).bind fun v13 => (aS M12 399 (nI (c + 1)) (v13 + q8)).bind fun M14 => some M14) (fun M' => z_Q3 A (r_fl A (pf 0) c w) bt pf M' ∧ z_QK M M') := by
      intro hsh
      refine z_eq (zi_399 _ (by omega)) ?_
      rw [hP.1 c (by omega), z_sub (by omega), zl_2, pk_div (by omega) (by decide) (by decide)]
      refine z_eq (r := nI (min ((A 1 c + w c - (A 1 (c + 1) + w (c + 1))) / 2) (w c))) ?_ ?_
      · by_cases q : w c < (A 1 c + w c - (A 1 (c + 1) + w (c + 1))) / 2
        · rw [if_pos (nI_lt q (by omega)), zi_399 _ (by omega), hP.1 c (by omega), Nat.min_eq_right (by omega)]; rfl
        · rw [if_neg (nI_nlt (by omega) (by omega)), Nat.min_eq_left (by omega)]
      have hm : min ((A 1 c + w c - (A 1 (c + 1) + w (c + 1))) / 2) (w c) ≤ w c := Nat.min_le_right _ _
      refine z_eq (zi_399 _ (by omega)) ?_
      rw [hP.1 c (by omega), z_sub hm]
      refine z_eq (zs_399 _ (by omega)) ?_
      have hP1 := hP.w c (w c - min ((A 1 c + w c - (A 1 (c + 1) + w (c + 1))) / 2) (w c))
      refine z_eq (zi_399 _ (by omega)) ?_
      rw [hP1.1 (c + 1) hc, z_un _ _ _ (by omega), nI_add]
      refine z_eq (zs_399 _ (by omega)) (z_some ⟨?_, z_QK.rf.w.w⟩)
      unfold r_fl
      rw [if_pos ⟨h1, hsh⟩]
      exact hP1.w _ _
    rw [h54]
    by_cases q : pf 0 = 0
    · rw [if_pos (by rw [q]; rfl)]
      exact key (fun r => by omega)
    · rw [if_neg (nI_ne0 (n := pf 0) (by omega) (by omega))]
      refine z_eq (zi_389 _ (by omega)) ?_
      rw [g1.2.2]
      refine z_ee (A 3 c) 1 rfl rfl (by omega) (by decide) (fun r => z_some ?_) (fun r => key (fun t => r t.2))
      unfold r_fl
      rw [if_neg (fun t => t.2 ⟨by omega, r⟩)]
      exact ⟨hP, z_QK.rf⟩
  · have h1 : ¬ A 1 (c + 1) + w (c + 1) < A 1 c + w c := fun q => h ((z_abv (by omega) (by omega)).mpr q)
    refine z_some ?_
    unfold r_fl
    rw [if_neg (fun q => h1 q.1)]
    exact ⟨hP, z_QK.rf⟩
theorem m_drinks (hW : z_W A) (hO : z_OR A M) {v : (Nat → Nat) × Nat} (hP : z_Q3 A v.1 bt (z_u pf 3 v.2) M) (hs : z_sum (A 0 0) v.1 ≤ 1260) {i : Nat} (hi : i < A 0 6) :
    z_ok (f_Mo_drinks 366 (nI i) M) (fun M' => z_Q3 A (r_dr A i v).1 bt (z_u pf 3 (r_dr A i v).2) M' ∧ z_QK M M') := by
  obtain ⟨hc0, w2, w3, w4, w5, w6, w7, w8, w9, w10, w11, w12⟩ := id hW
  have h12 := w12 i hi
  have g := hO.2.2.2.2.2.2.2.2.2.2.2 i hi
  have hv1 : v.1 (A 9 i) ≤ 1260 := Nat.le_trans (z_sum_le h12.1) hs
  unfold f_Mo_drinks
  rw [jm_39, jm_52, zl_8, zl_2, pk_mul, nI_add, nI_1]
  refine z_eq (zi_394 _ (by omega)) ?_
  refine z_eq (zi_394 _ (by omega)) ?_
  rw [g.1, g.2]
  refine z_eq (zi_399 _ (by omega)) ?_
  rw [hP.1 _ h12.1]
  refine z_eq (r := nI (min (A 10 i) (v.1 (A 9 i)))) ?_ ?_
  · by_cases q : v.1 (A 9 i) < A 10 i
    · rw [if_pos (nI_lt q (by omega)), zi_399 _ (by omega), hP.1 _ h12.1, Nat.min_eq_right (by omega)]; rfl
    · rw [if_neg (nI_nlt (by omega) (by omega)), Nat.min_eq_left (by omega)]
  refine z_eq (zi_399 _ (by omega)) ?_
  rw [hP.1 _ h12.1, z_sub (Nat.min_le_right _ _)]
  refine z_eq (zs_399 _ (by omega)) (z_some ⟨?_, z_QK.rf.w.p (by decide) (by decide)⟩)
  have h1 := hP.w (A 9 i) (v.1 (A 9 i) - min (A 10 i) (v.1 (A 9 i)))
  have h2 : (sI M 399 (A 9 i) (nI (v.1 (A 9 i) - min (A 10 i) (v.1 (A 9 i))))).1 366 57 = nI v.2 := h1.2.2 3 (by decide)
  rw [h2, nI_add]
  exact (h1.p 3 (v.2 + min (A 10 i) (v.1 (A 9 i)))).cg rfl rfl (fun j _ => by unfold z_u r_dr; split <;> rfl)
theorem m_draft (hW : z_W A) (hO : z_OR A M) {i : Nat} (hi : i < A 0 5) : f_Mo_draftOf 366 (nI i) M = some (nI (A 8 i)) := by
  have := hW.2.2.2.1
  unfold f_Mo_draftOf
  rw [jm_38, zl_8, zl_2, pk_mul, nI_add, nI_1, zi_393 _ (by omega), (hO.2.2.2.2.2.2.2.2.2.2.1 i hi).2]; rfl
theorem m_sails (hW : z_W A) (hR : z_R A) (hO : z_OR A M) (hP : z_Q3 A w bt pf M) (ht : pf 0 ≤ 1) (hw : ∀ c, c < A 0 0 → w c ≤ 1260) (hb : ∀ i, i < A 0 5 → bt i < A 0 0) {i : Nat} (hi : i < A 0 5) :
    z_ok (f_Mo_sails 366 (nI i) M) (fun M' => z_Q3 A w (r_sa A (pf 0) w i bt) pf M' ∧ z_QK M M') := by
  obtain ⟨hc0, w2, w3, w4, w5, w6, w7, w8, w9, w10, w11, w12⟩ := id hW
  have hR1 := hR.1
  have h2 := hb i hi
  have h3 := hw _ h2
  have h8 := (w11 i hi).2
  have hs3 := (w8 (bt i) h2).2.2
  have hno : ¬ (A 8 i ≤ w (bt i) ∧ bt i ≠ A 0 0 - 1 ∧ ¬ (pf 0 = 1 ∧ A 3 (bt i) = 1) ∧ A 8 i ≤ w (bt i + 1)) → z_Q3 A w (r_sa A (pf 0) w i bt) pf M ∧ z_QK M M := fun h => by
    unfold r_sa; rw [if_neg h]; exact ⟨hP, z_QK.rf⟩
  unfold f_Mo_sails
  rw [jm_53, jm_52, jm_34]
  refine z_eq (zi_400 _ (by omega)) ?_
  rw [hP.2.1 i hi]
  refine z_eq (zi_399 _ (by omega)) ?_
  rw [hP.1 _ h2]
  refine z_eq (m_draft hW hO hi) ?_
  refine z_lt _ _ rfl rfl (by omega) (by omega) (fun g => z_some (hno (fun q => by omega))) (fun g => ?_)
  rw [hO.1, z_ls (by omega)]
  refine z_ee _ _ rfl rfl (by omega) (by omega) (fun g2 => z_some (hno (fun q => q.2.1 g2))) (fun g2 => ?_)
  rw [nI_1]
  refine z_eq (zi_399 _ (by omega)) ?_
  have h3' := hw (bt i + 1) (by omega)
  rw [hP.1 _ (by omega)]
  refine z_eq (m_draft hW hO hi) ?_
  refine z_lt _ _ rfl rfl (by omega) (by omega) (fun g3 => z_some (hno (fun q => by omega))) (fun g3 => ?_)
  have h54 : M.1 366 54 = nI (pf 0) := hP.2.2 0 (by decide)
  have yes : ¬ (pf 0 = 1 ∧ A 3 (bt i) = 1) → z_Q3 A w (r_sa A (pf 0) w i bt) pf (sI M 400 i (nI (bt i + 1))) ∧ z_QK M (sI M 400 i (nI (bt i + 1))) := fun h => by
    unfold r_sa; rw [if_pos ⟨g, g2, h, g3⟩]; exact ⟨hP.b _ _, z_QK.rf.b⟩
  rw [h54]
  refine z_ee _ 0 rfl rfl (by omega) (by decide) (fun g4 => ?_) (fun g4 => ?_)
  · refine z_eq (zs_400 _ (by omega)) (z_some (yes (fun q => by omega)))
  · rw [zl_12, nI_add]
    refine z_eq (zi_389 _ (by omega)) ?_
    rw [(hO.2.2.2.2.2.2.2.1 _ h2).2.2]
    refine z_ee _ 1 rfl rfl (by omega) (by decide) (fun g5 => z_some (hno (fun q => q.2.2.1 ⟨by omega, g5⟩))) (fun g5 => ?_)
    refine z_eq (zs_400 _ (by omega)) (z_some (yes (fun q => g5 q.2)))
theorem m_goes {S : ZS} (hW : z_W A) (hR : z_R A) (hO : z_OR A M) (hG : z_G A S) (hP : z_Q3 A S.1 S.2.1 pf M) (hal : ∀ d, d < A 0 3 → al d b ≤ 3) (ha : ∀ M', z_QK M M' → ∀ d, d < A 0 3 → f_Mo_does 366 (nI d) (nI b) M' = some (nI (al d b))) :
    z_ok (f_Mo_goes 366 (nI b) M) (fun M' => z_Q3 A (r_bar A al b S).1 (r_bar A al b S).2.1 (fun k => if k = 0 then r_on A al b S.1 4 else r_on A al b S.1 (k - 1)) M' ∧ z_QK M M') := by
  obtain ⟨hc0, w2, w3, w4, w5, w6, w7, w8, w9, w10, w11, w12⟩ := id hW
  have hR1 := hR.1
  have hR2 := hR.2
  have hin := r_in_b (A := A) (al := al) (b := b) w9 (Nat.le_refl _)
  unfold f_Mo_goes
  have hP0 : z_Q3 A S.1 S.2.1 (z_u (z_u (z_u (z_u pf 0 0) 1 0) 3 0) 4 0) (sI (sI (sI (sI M 366 54 0) 366 55 0) 366 57 0) 366 58 0) := (((hP.p 0 0).p 1 0).p 3 0).p 4 0
  have hK0 : z_QK M (sI (sI (sI (sI M 366 54 0) 366 55 0) 366 57 0) 366 58 0) := (((z_QK.rf.p (by decide) (by decide)).p (by decide) (by decide)).p (by decide) (by decide)).p (by decide) (by decide)
  generalize sI (sI (sI (sI M 366 54 0) 366 55 0) 366 57 0) 366 58 0 = M0 at hP0 hK0
  refine z_bind (P := fun s => z_Q3 A S.1 S.2.1 (fun k => if k = 0 then (r_in A al b (A 0 3)).2 else if k = 1 then (r_in A al b (A 0 3)).1 else if k = 2 then pf 2 else 0) s ∧ z_QK M s) ?_ (fun M1 h1 => ?_)
  · refine z_loop (fun n c s => lp_Mo_goes_22 366 (nI b) n c s) (fun c s => z_Q3 A S.1 S.2.1 (fun k => if k = 0 then (r_in A al b c).2 else if k = 1 then (r_in A al b c).1 else if k = 2 then pf 2 else 0) s ∧ z_QK M s) _ (A 0 3) ?_ ?_ jfuel 0 M0 (Nat.zero_le _) (by rw [z_jf]; omega) ⟨hP0.cg rfl rfl (fun k hk => ?_), hK0⟩
    · intro n c M' hc hI k
      obtain ⟨hP', hK⟩ := hI
      have hO' := hO.qk hK
      have hal' := hal c hc
      show z_ok (lp_Mo_goes_22 366 (nI b) (n + 1) (nI c) M') _
      rw [lp_Mo_goes_22]
      refine z_eq (m_desks hW hO') ?_
      refine z_pos (nI_lt hc (by omega)) ?_
      refine z_eq (ha M' hK c hc) ?_
      have e1 : r_in A al b (c + 1) = (if al c b = 0 then (r_in A al b c).1 + A 4 c else (r_in A al b c).1, if al c b = 3 then 1 else (r_in A al b c).2) := rfl
      refine z_bind (P := fun s => z_Q3 A S.1 S.2.1 (fun k => if k = 0 then (r_in A al b c).2 else if k = 1 then (r_in A al b (c + 1)).1 else if k = 2 then pf 2 else 0) s ∧ z_QK M s) ?_ (fun M2 h2 => ?_)
      · refine z_ee (al c b) 0 rfl rfl (by omega) (by decide) (fun h => ?_) (fun h => ?_)
        · rw [jm_35, zl_8, nI_add]
          refine z_eq (zi_390 _ (by omega)) (z_some ⟨?_, hK.p (by decide) (by decide)⟩)
          have h0 : M'.1 366 55 = nI (r_in A al b c).1 := hP'.2.2 1 (by decide)
          rw [h0, hO'.2.2.2.2.2.2.2.2.1 c hc, nI_add, e1, if_pos h]
          refine (hP'.p 1 ((r_in A al b c).1 + A 4 c)).cg rfl rfl (fun j hj => ?_)
          match j, hj with
          | 0, _ => rfl
          | 1, _ => rfl
          | 2, _ => rfl
          | 3, _ => rfl
          | 4, _ => rfl
          | j + 5, h => omega
        · refine z_some ⟨?_, hK⟩
          rw [e1, if_neg h]; exact hP'
      · refine z_bind (P := fun s => z_Q3 A S.1 S.2.1 (fun k => if k = 0 then (r_in A al b (c + 1)).2 else if k = 1 then (r_in A al b (c + 1)).1 else if k = 2 then pf 2 else 0) s ∧ z_QK M s) ?_ (fun M3 h3 => by rw [nI_1]; exact k M3 h3)
        refine z_ee (al c b) 3 rfl rfl (by omega) (by decide) (fun h => ?_) (fun h => ?_)
        · refine z_some ⟨?_, h2.2.p (by decide) (by decide)⟩
          have e2 : (r_in A al b (c + 1)).2 = 1 := by rw [e1]; exact if_pos h
          rw [e2]
          refine (h2.1.p 0 1).cg rfl rfl (fun j hj => ?_)
          match j, hj with
          | 0, _ => rfl
          | 1, _ => rfl
          | 2, _ => rfl
          | 3, _ => rfl
          | 4, _ => rfl
          | j + 5, h => omega
        · refine z_some ⟨?_, h2.2⟩
          have e2 : (r_in A al b (c + 1)).2 = (r_in A al b c).2 := by rw [e1]; exact if_neg h
          rw [e2]; exact h2.1
    · intro n M' hI
      show z_ok (lp_Mo_goes_22 366 (nI b) (n + 1) (nI (A 0 3)) M') _
      rw [lp_Mo_goes_22]
      refine z_eq (m_desks hW (hO.qk hI.2)) ?_
      exact z_neg (nI_nlt (Nat.le_refl _) (by omega)) (z_some hI)
    · match k, hk with
      | 0, _ => rfl
      | 1, _ => rfl
      | 2, _ => rfl
      | 3, _ => rfl
      | 4, _ => rfl
      | j + 5, h => omega
  · obtain ⟨P1, K1⟩ := h1
    have O1 := hO.qk K1
    show z_ok ((aI M1 (jpf 366 40) (nI 1)).bind _) _
    rw [jm_40, jm_52]
    refine z_eq (zi_395 _ (by decide)) ?_
    rw [O1.2.1]
    refine z_eq (zi_399 _ (by omega)) ?_
    have h55 : M1.1 366 55 = nI (r_in A al b (A 0 3)).1 := P1.2.2 1 (by decide)
    rw [h55, P1.1 _ hR2, nI_add]
    refine z_eq (zs_399 _ (by omega)) ?_
    have P2 := P1.w (A 0 1) (S.1 (A 0 1) + (r_in A al b (A 0 3)).1)
    have K2 : z_QK M (sI M1 399 (A 0 1) (nI (S.1 (A 0 1) + (r_in A al b (A 0 3)).1))) := K1.w
    generalize sI M1 399 (A 0 1) (nI (S.1 (A 0 1) + (r_in A al b (A 0 3)).1)) = M2 at P2 K2
    have s1 := r_w1_sum (al := al) (b := b) hW hR hG.1
    refine z_bind (P := fun s => z_Q3 A (r_w2 A al b S.1) S.2.1 (fun k => if k = 0 then (r_in A al b (A 0 3)).2 else if k = 1 then (r_in A al b (A 0 3)).1 else if k = 2 then pf 2 else 0) s ∧ z_QK M s) ?_ (fun M3 h3 => ?_)
    · refine z_loop (fun n c s => lp_Mo_goes_95 366 n c s) (fun c s => z_Q3 A (z_it (r_fl A (r_in A al b (A 0 3)).2) c (r_w1 A al b S.1)) S.2.1 (fun k => if k = 0 then (r_in A al b (A 0 3)).2 else if k = 1 then (r_in A al b (A 0 3)).1 else if k = 2 then pf 2 else 0) s ∧ z_QK M s) _ (A 0 0 - 1) ?_ ?_ jfuel 0 M2 (Nat.zero_le _) (by rw [z_jf]; omega) ⟨P2, K2⟩
      · intro n c M' hc hI k
        have hO' := hO.qk hI.2
        show z_ok (lp_Mo_goes_95 366 (n + 1) (nI c) M') _
        rw [lp_Mo_goes_95, hO'.1, z_ls (by omega)]
        refine z_pos (nI_lt hc (by omega)) ?_
        refine z_bind (m_flows hW hO' hI.1 hin.2 (by rw [r_fls_sum (by omega)]; exact s1) (by omega)) (fun M'' h => ?_)
        rw [nI_1]
        exact k M'' ⟨h.1, hI.2.tr h.2⟩
      · intro n M' hI
        have hO' := hO.qk hI.2
        show z_ok (lp_Mo_goes_95 366 (n + 1) (nI (A 0 0 - 1)) M') _
        rw [lp_Mo_goes_95, hO'.1, z_ls (by omega)]
        exact z_neg (nI_nlt (Nat.le_refl _) (by omega)) (z_some hI)
    · obtain ⟨P3, K3⟩ := h3
      have O3 := hO.qk K3
      have s2 := r_w2_sum (al := al) (b := b) hW hR hG.1
      have v2 : r_w2 A al b S.1 (A 0 0 - 1) ≤ 1260 := Nat.le_trans (z_sum_le (by omega)) s2
      rw [O3.1, z_ls (by omega)]
      refine z_eq (zi_399 _ (by omega)) ?_
      rw [P3.1 _ (by omega), zl_2, pk_div (by omega) (by decide) (by decide)]
      have P4 := P3.p 2 (r_w2 A al b S.1 (A 0 0 - 1) / 2)
      have K4 : z_QK M (sI M3 366 56 (nI (r_w2 A al b S.1 (A 0 0 - 1) / 2))) := K3.p (by decide) (by decide)
      have P4 : z_Q3 A _ _ _ (sI M3 366 56 (nI (r_w2 A al b S.1 (A 0 0 - 1) / 2))) := P4
      generalize sI M3 366 56 (nI (r_w2 A al b S.1 (A 0 0 - 1) / 2)) = M4 at P4 K4
      have O4 := hO.qk K4
      have h56 : M4.1 366 56 = nI (r_w2 A al b S.1 (A 0 0 - 1) / 2) := P4.2.2 2 (by decide)
      rw [h56, O4.1, z_ls (by omega)]
      refine z_eq (zi_399 _ (by omega)) ?_
      rw [P4.1 _ (by omega), z_sub (Nat.div_le_self _ _)]
      refine z_eq (zs_399 _ (by omega)) ?_
      have P5 := P4.w (A 0 0 - 1) (r_w2 A al b S.1 (A 0 0 - 1) - r_w2 A al b S.1 (A 0 0 - 1) / 2)
      have K5 : z_QK M (sI M4 399 (A 0 0 - 1) (nI (r_w2 A al b S.1 (A 0 0 - 1) - r_w2 A al b S.1 (A 0 0 - 1) / 2))) := K4.w
      generalize sI M4 399 (A 0 0 - 1) (nI (r_w2 A al b S.1 (A 0 0 - 1) - r_w2 A al b S.1 (A 0 0 - 1) / 2)) = M5 at P5 K5
      have s3 : z_sum (A 0 0) (r_w3 A (r_w2 A al b S.1)) ≤ 1260 := by
        have := r_w3_sum (A := A) (w := r_w2 A al b S.1) hR
        omega
      have s4 : ∀ k, k ≤ A 0 6 → z_sum (A 0 0) (z_it (r_dr A) k (r_w3 A (r_w2 A al b S.1), 0)).1 ≤ 1260 := fun k hk => by
        have : z_sum (A 0 0) (z_it (r_dr A) k (r_w3 A (r_w2 A al b S.1), 0)).1 + (z_it (r_dr A) k (r_w3 A (r_w2 A al b S.1), 0)).2 = z_sum (A 0 0) (r_w3 A (r_w2 A al b S.1)) + 0 := r_drs_sum (A := A) (s := (r_w3 A (r_w2 A al b S.1), 0)) (n := A 0 0) (fun i hi => (w12 i hi).1) hk
        omega
      refine z_bind (P := fun s => z_Q3 A (r_w4 A al b S.1).1 S.2.1 (fun k => if k = 0 then (r_in A al b (A 0 3)).2 else if k = 1 then (r_in A al b (A 0 3)).1 else if k = 2 then r_w2 A al b S.1 (A 0 0 - 1) / 2 else if k = 3 then (r_w4 A al b S.1).2 else 0) s ∧ z_QK M s) ?_ (fun M6 h6 => ?_)
      · refine z_loop (fun n c s => lp_Mo_goes_153 366 n c s) (fun c s => z_Q3 A (z_it (r_dr A) c (r_w3 A (r_w2 A al b S.1), 0)).1 S.2.1 (z_u (fun k => if k = 0 then (r_in A al b (A 0 3)).2 else if k = 1 then (r_in A al b (A 0 3)).1 else if k = 2 then r_w2 A al b S.1 (A 0 0 - 1) / 2 else 0) 3 (z_it (r_dr A) c (r_w3 A (r_w2 A al b S.1), 0)).2) s ∧ z_QK M s) _ (A 0 6) ?_ ?_ jfuel 0 M5 (Nat.zero_le _) (by rw [z_jf]; omega) ⟨P5.cg rfl rfl (fun k hk => ?_), K5⟩
        · intro n c M' hc hI k
          have hO' := hO.qk hI.2
          show z_ok (lp_Mo_goes_153 366 (n + 1) (nI c) M') _
          rw [lp_Mo_goes_153, jm_28]
          refine z_eq (zi_385 _ (k := 7) (by decide)) ?_
          rw [hO'.2.2.2.2.2.2.1]
          refine z_pos (nI_lt hc (by omega)) ?_
          refine z_bind (m_drinks hW hO' hI.1 (s4 c (by omega)) hc) (fun M'' h => ?_)
          rw [nI_1]
          exact k M'' ⟨h.1, hI.2.tr h.2⟩
        · intro n M' hI
          have hO' := hO.qk hI.2
          show z_ok (lp_Mo_goes_153 366 (n + 1) (nI (A 0 6)) M') _
          rw [lp_Mo_goes_153, jm_28]
          refine z_eq (zi_385 _ (k := 7) (by decide)) ?_
          rw [hO'.2.2.2.2.2.2.1]
          refine z_neg (nI_nlt (Nat.le_refl _) (by omega)) (z_some ⟨hI.1.cg rfl rfl (fun k hk => ?_), hI.2⟩)
          match k, hk with
          | 0, _ => rfl
          | 1, _ => rfl
          | 2, _ => rfl
          | 3, _ => rfl
          | 4, _ => rfl
          | j + 5, h => omega
        · match k, hk with
          | 0, _ => rfl
          | 1, _ => rfl
          | 2, _ => rfl
          | 3, _ => rfl
          | 4, _ => rfl
          | j + 5, h => omega
      · obtain ⟨P6, K6⟩ := h6
        refine z_bind (P := fun s => z_Q3 A (r_w5 A al b S.1).1 S.2.1 (fun k => if k = 0 then (r_in A al b (A 0 3)).2 else if k = 1 then (r_in A al b (A 0 3)).1 else if k = 2 then r_w2 A al b S.1 (A 0 0 - 1) / 2 else if k = 3 then (r_w4 A al b S.1).2 else (r_w5 A al b S.1).2) s ∧ z_QK M s) ?_ (fun M7 h7 => ?_)
        · refine z_loop (fun n c s => lp_Mo_goes_177 366 n c s) (fun c s => z_Q3 A (z_it (r_sp A) c ((r_w4 A al b S.1).1, 0)).1 S.2.1 (fun k => if k = 0 then (r_in A al b (A 0 3)).2 else if k = 1 then (r_in A al b (A 0 3)).1 else if k = 2 then r_w2 A al b S.1 (A 0 0 - 1) / 2 else if k = 3 then (r_w4 A al b S.1).2 else (z_it (r_sp A) c ((r_w4 A al b S.1).1, 0)).2) s ∧ z_QK M s) _ (A 0 0) ?_ ?_ jfuel 0 M6 (Nat.zero_le _) (by rw [z_jf]; omega) ⟨P6, K6⟩
          · intro n c M' hc hI k
            have hO' := hO.qk hI.2
            have hsum := r_sps_sum (A := A) (s := ((r_w4 A al b S.1).1, 0)) (n := A 0 0) (k := c) (by omega)
            have k' : ∀ M'', z_Q3 A (r_sp A c (z_it (r_sp A) c ((r_w4 A al b S.1).1, 0))).1 S.2.1 (fun k => if k = 0 then (r_in A al b (A 0 3)).2 else if k = 1 then (r_in A al b (A 0 3)).1 else if k = 2 then r_w2 A al b S.1 (A 0 0 - 1) / 2 else if k = 3 then (r_w4 A al b S.1).2 else (r_sp A c (z_it (r_sp A) c ((r_w4 A al b S.1).1, 0))).2) M'' ∧ z_QK M M'' → _ := fun M'' h => k M'' h
            obtain ⟨hP', hK⟩ := hI
            generalize z_it (r_sp A) c ((r_w4 A al b S.1).1, 0) = v at hP' hsum k'
            have h4 := s4 (A 0 6) (Nat.le_refl _)
            have hsum : z_sum (A 0 0) v.1 + v.2 = z_sum (A 0 0) (r_w4 A al b S.1).1 + 0 := hsum
            have h4 : z_sum (A 0 0) (r_w4 A al b S.1).1 ≤ 1260 := h4
            have hv1 : v.1 c ≤ 1260 := Nat.le_trans (z_sum_le hc) (by omega)
            have h58 : M'.1 366 58 = nI v.2 := hP'.2.2 4 (by decide)
            have hbk : M'.1 396 1 = nI (A 0 2) := hO'.2.2.1.elim id (fun r => by omega)
            show z_ok (lp_Mo_goes_177 366 (n + 1) (nI c) M') _
            rw [lp_Mo_goes_177, jm_41, jm_52, hO'.1]
            refine z_pos (nI_lt hc (by omega)) ?_
            refine z_eq (zi_399 _ (by omega)) ?_
            show z_ok ((aI M' 396 (nI 1)).bind _) _
            refine z_eq (zi_396 _ (by decide)) ?_
            rw [hP'.1 c hc, hbk]
            refine z_bind (P := fun M'' => z_Q3 A (r_sp A c v).1 S.2.1 (fun k => if k = 0 then (r_in A al b (A 0 3)).2 else if k = 1 then (r_in A al b (A 0 3)).1 else if k = 2 then r_w2 A al b S.1 (A 0 0 - 1) / 2 else if k = 3 then (r_w4 A al b S.1).2 else (r_sp A c v).2) M'' ∧ z_QK M M'') ?_ (fun M'' h => by rw [nI_1]; exact k' M'' h)
            refine z_lt _ _ rfl rfl (by omega) (by omega) (fun g => ?_) (fun g => ?_)
            · refine z_eq (zi_399 _ (by omega)) ?_
              refine z_eq (zi_396 _ (k := 1) (by decide)) ?_
              rw [hP'.1 c hc, hbk, z_sub (by omega), h58, nI_add]
              refine z_eq (zi_396 _ (k := 1) (by decide)) ?_
              have hP2 := hP'.p 4 (v.2 + (v.1 c - A 0 2))
              refine z_eq (zs_399 _ (by omega)) (z_some ⟨?_, (hK.p (by decide) (by decide)).w⟩)
              rw [z_sIa _ _ _ _ (by decide), hbk]
              refine (hP2.w c (A 0 2)).cg ?_ rfl (fun j hj => ?_)
              · show z_u v.1 c (A 0 2) = z_u v.1 c (min (v.1 c) (A 0 2))
                rw [Nat.min_eq_right (by omega)]
              · match j, hj with
                | 0, _ => rfl
                | 1, _ => rfl
                | 2, _ => rfl
                | 3, _ => rfl
                | 4, _ => rfl
                | j + 5, h => omega
            · refine z_some ⟨hP'.cg ?_ rfl (fun j hj => ?_), hK⟩
              · funext j
                show v.1 j = z_u v.1 c (min (v.1 c) (A 0 2)) j
                by_cases e : j = c
                · subst e; rw [z_us, Nat.min_eq_left g]
                · rw [z_un _ _ _ e]
              · show (if j = 0 then _ else _) = (if j = 0 then _ else if j = 1 then _ else if j = 2 then _ else if j = 3 then _ else v.2 + (v.1 c - A 0 2))
                rw [show v.2 + (v.1 c - A 0 2) = v.2 by omega]
          · intro n M' hI
            have hO' := hO.qk hI.2
            show z_ok (lp_Mo_goes_177 366 (n + 1) (nI (A 0 0)) M') _
            rw [lp_Mo_goes_177, hO'.1]
            exact z_neg (nI_nlt (Nat.le_refl _) (by omega)) (z_some hI)
        · obtain ⟨P7, K7⟩ := h7
          refine z_bind (P := fun s => z_Q3 A (r_w5 A al b S.1).1 (r_bt A al b S.1 S.2.1) (fun k => if k = 0 then (r_in A al b (A 0 3)).2 else if k = 1 then (r_in A al b (A 0 3)).1 else if k = 2 then r_w2 A al b S.1 (A 0 0 - 1) / 2 else if k = 3 then (r_w4 A al b S.1).2 else (r_w5 A al b S.1).2) s ∧ z_QK M s) ?_ (fun M8 h8 => z_some ⟨h8.1.cg rfl rfl (fun k hk => ?_), h8.2⟩)
          · refine z_loop (fun n c s => lp_Mo_goes_245 366 n c s) (fun c s => z_Q3 A (r_w5 A al b S.1).1 (z_it (r_sa A (r_in A al b (A 0 3)).2 (r_w5 A al b S.1).1) c S.2.1) (fun k => if k = 0 then (r_in A al b (A 0 3)).2 else if k = 1 then (r_in A al b (A 0 3)).1 else if k = 2 then r_w2 A al b S.1 (A 0 0 - 1) / 2 else if k = 3 then (r_w4 A al b S.1).2 else (r_w5 A al b S.1).2) s ∧ z_QK M s) _ (A 0 5) ?_ ?_ jfuel 0 M7 (Nat.zero_le _) (by rw [z_jf]; omega) ⟨P7, K7⟩
            · intro n c M' hc hI k
              have hO' := hO.qk hI.2
              show z_ok (lp_Mo_goes_245 366 (n + 1) (nI c) M') _
              rw [lp_Mo_goes_245, jm_28]
              refine z_eq (zi_385 _ (k := 6) (by decide)) ?_
              rw [hO'.2.2.2.2.2.1]
              refine z_pos (nI_lt hc (by omega)) ?_
              refine z_bind (m_sails hW hR hO' hI.1 hin.2 (fun c hc => Nat.le_trans (r_sps_b.1 c hc) (Nat.le_trans w7 (by decide))) (r_bt_b hG.2) hc) (fun M'' h => ?_)
              rw [nI_1]
              exact k M'' ⟨h.1, hI.2.tr h.2⟩
            · intro n M' hI
              have hO' := hO.qk hI.2
              show z_ok (lp_Mo_goes_245 366 (n + 1) (nI (A 0 5)) M') _
              rw [lp_Mo_goes_245, jm_28]
              refine z_eq (zi_385 _ (k := 6) (by decide)) ?_
              rw [hO'.2.2.2.2.2.1]
              exact z_neg (nI_nlt (Nat.le_refl _) (by omega)) (z_some hI)
          · match k, hk with
            | 0, _ => rfl
            | 1, _ => rfl
            | 2, _ => rfl
            | 3, _ => rfl
            | 4, _ => rfl
            | j + 5, h => omega
end
