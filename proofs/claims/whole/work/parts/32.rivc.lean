/-! ===== pure: the class's river ===== -/
def z_PK (M M' : SM) : Prop := z_Fr (fun i => i < 319 ∨ 321 < i) M M' ∧ (∀ k, 7 ≤ k → M'.1 319 k = M.1 319 k)
theorem z_PK.rf {M : SM} : z_PK M M := ⟨z_Fr.rf, fun _ _ => rfl⟩
theorem z_PK.tr {M M' M'' : SM} (h : z_PK M M') (k : z_PK M' M'') : z_PK M M'' := ⟨h.1.tr k.1, fun i p => (k.2 i p).trans (h.2 i p)⟩
theorem z_PK.w {M M' : SM} {k : Nat} {v : Int32} (h : z_PK M M') : z_PK M (sI M' 320 k v) := ⟨h.1.sI (by omega), fun i p => by rw [z_sIa _ _ _ _ (by decide)]; exact h.2 i p⟩
theorem z_PK.b {M M' : SM} {k : Nat} {v : Int32} (h : z_PK M M') : z_PK M (sI M' 321 k v) := ⟨h.1.sI (by omega), fun i p => by rw [z_sIa _ _ _ _ (by decide)]; exact h.2 i p⟩
theorem z_PK.p {M M' : SM} {k : Nat} {v : Int32} (h : z_PK M M') (hk : k < 7) : z_PK M (sI M' 319 k v) := ⟨h.1.sI (by omega), fun i p => by rw [z_sIk _ _ _ _ (by omega)]; exact h.2 i p⟩
theorem z_OC.pk {o : Nat} {A : ZA} {M M' : SM} (ho : o = 7 ∨ o = 57) (h : z_OC o A M) (k : z_PK M M') : z_OC o A M' := h.fr (fun i h1 h2 => k.1.1 i (by omega))
/-- the pool holds w, boats bt, sums pf: 0 came 1 ran out 2 drunk 3 spilt 4 trilled -/
def z_P3 (A : ZA) (w bt pf : Nat → Nat) (M : SM) : Prop := (∀ c, c < A 0 0 → M.1 320 c = nI (w c)) ∧ (∀ i, i < A 0 5 → M.1 321 i = nI (bt i)) ∧ (∀ k, k < 5 → M.1 319 (2 + k) = nI (pf k))
theorem z_P3.w {A : ZA} {w bt pf : Nat → Nat} {M : SM} (h : z_P3 A w bt pf M) (k v : Nat) : z_P3 A (z_u w k v) bt pf (sI M 320 k (nI v)) := by
  refine ⟨fun c hc => ?_, fun i hi => ?_, fun j hj => ?_⟩
  · by_cases e : c = k
    · subst e; rw [z_sIs, z_us]
    · rw [z_sIk _ _ _ _ e, z_un _ _ _ e]; exact h.1 c hc
  · rw [z_sIa _ _ _ _ (by decide)]; exact h.2.1 i hi
  · rw [z_sIa _ _ _ _ (by decide)]; exact h.2.2 j hj
theorem z_P3.b {A : ZA} {w bt pf : Nat → Nat} {M : SM} (h : z_P3 A w bt pf M) (k v : Nat) : z_P3 A w (z_u bt k v) pf (sI M 321 k (nI v)) := by
  refine ⟨fun c hc => ?_, fun i hi => ?_, fun j hj => ?_⟩
  · rw [z_sIa _ _ _ _ (by decide)]; exact h.1 c hc
  · by_cases e : i = k
    · subst e; rw [z_sIs, z_us]
    · rw [z_sIk _ _ _ _ e, z_un _ _ _ e]; exact h.2.1 i hi
  · rw [z_sIa _ _ _ _ (by decide)]; exact h.2.2 j hj
theorem z_P3.p {A : ZA} {w bt pf : Nat → Nat} {M : SM} (h : z_P3 A w bt pf M) (k v : Nat) : z_P3 A w bt (z_u pf k v) (sI M 319 (2 + k) (nI v)) := by
  refine ⟨fun c hc => ?_, fun i hi => ?_, fun j hj => ?_⟩
  · rw [z_sIa _ _ _ _ (by decide)]; exact h.1 c hc
  · rw [z_sIa _ _ _ _ (by decide)]; exact h.2.1 i hi
  · by_cases e : j = k
    · subst e; rw [z_sIs, z_us]
    · rw [z_sIk _ _ _ _ (by omega), z_un _ _ _ e]; exact h.2.2 j hj
theorem z_P3.cg {A : ZA} {w bt pf w' bt' pf' : Nat → Nat} {M : SM} (h : z_P3 A w bt pf M) (h1 : w = w') (h2 : bt = bt') (h3 : ∀ k, k < 5 → pf k = pf' k) : z_P3 A w' bt' pf' M := by
  subst h1; subst h2
  exact ⟨h.1, h.2.1, fun k hk => by rw [← h3 k hk]; exact h.2.2 k hk⟩
section
variable {A : ZA} {o : Nat} {M : SM} {w bt pf : Nat → Nat} {al : Nat → Nat → Nat} {b : Nat}
theorem c_bow (ho : o = 7 ∨ o = 57) (hW : z_W A) (hR : z_R A) (hO : z_OC o A M) (hP : z_P3 A w bt pf M) (hal : ∀ d, d < A 0 3 → al d b ≤ 3) (ha : ∀ M', z_PK M M' → ∀ d, d < A 0 3 → f_Po_act 319 o (nI d) (nI b) M' = some (nI (al d b))) :
    z_ok (f_Po_bow 319 o (nI b) M) (fun M' => z_P3 A (r_w1 A al b w) bt (z_u (z_u pf 4 (r_in A al b (A 0 3)).2) 0 (pf 0 + (r_in A al b (A 0 3)).1)) M' ∧ z_PK M M') := by
  have hd := hW.2.1
  have hc0 := hW.1
  unfold f_Po_bow
  refine z_bind (P := fun s => s.1 = nI (r_in A al b (A 0 3)).1 ∧ z_P3 A w bt (z_u pf 4 (r_in A al b (A 0 3)).2) s.2 ∧ z_PK M s.2) ?_ ?_
  · show z_ok ((fun n c (s : Int32 × SM) => lp_Po_bow_10 319 o (nI b) n s.1 c s.2) jfuel (nI 0) (nI 0, sI M 319 6 0)) _
    refine z_loop (σ := Int32 × SM) (τ := Int32 × SM) (fun n c (s : Int32 × SM) => lp_Po_bow_10 319 o (nI b) n s.1 c s.2) (fun c (s : Int32 × SM) => s.1 = nI (r_in A al b c).1 ∧ z_P3 A w bt (z_u pf 4 (r_in A al b c).2) s.2 ∧ z_PK M s.2) _ (A 0 3) ?_ ?_ jfuel 0 (nI 0, sI M 319 6 0) (Nat.zero_le _) (by rw [z_jf]; omega) ⟨by show nI 0 = nI 0; rfl, ?_, z_PK.rf.p (by decide)⟩
    · intro n c s hc hI k
      obtain ⟨x, M'⟩ := s
      obtain ⟨hx, hP', hK⟩ := hI
      have hO' := hO.pk ho hK
      show z_ok (lp_Po_bow_10 319 o (nI b) (n + 1) x (nI c) M') _
      rw [lp_Po_bow_10]
      refine z_pos (by rw [hO'.2.2.2.1]; exact nI_lt hc (by omega)) ?_
      refine z_eq (ha M' hK c hc) ?_
      have hal' := hal c hc
      refine z_bind (P := fun s => s.1 = nI (r_in A al b (c + 1)).1 ∧ z_P3 A w bt (z_u pf 4 (r_in A al b (c + 1)).2) s.2 ∧ z_PK M s.2) ?_ (fun s hs => by rw [nI_1]; exact k s hs)
      have e1 : r_in A al b (c + 1) = (if al c b = 0 then (r_in A al b c).1 + A 4 c else (r_in A al b c).1, if al c b = 3 then 1 else (r_in A al b c).2) := rfl
      have hx : x = nI (r_in A al b c).1 := hx
      refine z_ee (al c b) 0 rfl rfl (by omega) (by decide) (fun h => ?_) (fun h => ?_)
      · rw [jo_8 ho]
        refine z_eq (zao_4 ho M' (k := c) (by omega)) (z_some ?_)
        rw [e1, if_pos h, if_neg (by omega)]
        refine ⟨?_, hP', hK⟩
        show x + M'.1 (o + 4) c = _
        rw [hx, hO'.2.2.2.2.2.2.2.2.1 c hc, nI_add]
      · refine z_ee (al c b) 3 rfl rfl (by omega) (by decide) (fun h3 => ?_) (fun h3 => ?_)
        · refine z_some ?_
          rw [e1, if_neg h, if_pos h3]
          refine ⟨hx, ?_, hK.p (by decide)⟩
          have := hP'.p 4 1
          exact this.cg rfl rfl (fun k hk => by unfold z_u; split <;> rfl)
        · refine z_some ?_
          rw [e1, if_neg h, if_neg h3]
          exact ⟨hx, hP', hK⟩
    · intro n s hI
      obtain ⟨x, M'⟩ := s
      have hO' := hO.pk ho hI.2.2
      show z_ok (lp_Po_bow_10 319 o (nI b) (n + 1) x (nI (A 0 3)) M') _
      rw [lp_Po_bow_10]
      refine z_neg (by rw [hO'.2.2.2.1]; exact nI_nlt (Nat.le_refl _) (by omega)) (z_some hI)
    · exact hP.p 4 0
  · intro s hs
    obtain ⟨x, M'⟩ := s
    obtain ⟨hx, hP', hK⟩ := hs
    have hx : x = nI (r_in A al b (A 0 3)).1 := hx
    subst hx
    have hK1 : z_PK M (sI M' 319 2 (M'.1 319 2 + nI (r_in A al b (A 0 3)).1)) := hK.p (by decide)
    have hO' := hO.pk ho hK1
    have hP1 : z_P3 A w bt (z_u (z_u pf 4 (r_in A al b (A 0 3)).2) 0 (pf 0 + (r_in A al b (A 0 3)).1)) (sI M' 319 2 (M'.1 319 2 + nI (r_in A al b (A 0 3)).1)) := by
      have h0 : M'.1 319 2 = nI (pf 0) := hP'.2.2 0 (by decide)
      rw [h0, nI_add]
      exact hP'.p 0 _
    have hR2 := hR.2
    show z_ok ((f_Sp_at (jpf 319 0) ((sI M' 319 2 (M'.1 319 2 + nI (r_in A al b (A 0 3)).1)).1 o 2) (sI M' 319 2 (M'.1 319 2 + nI (r_in A al b (A 0 3)).1))).bind fun q8 => (f_Sp_put (jpf 319 0) ((sI M' 319 2 (M'.1 319 2 + nI (r_in A al b (A 0 3)).1)).1 o 2) (q8 + nI (r_in A al b (A 0 3)).1) (sI M' 319 2 (M'.1 319 2 + nI (r_in A al b (A 0 3)).1))).bind fun q9 => some q9) _
    generalize sI M' 319 2 (M'.1 319 2 + nI (r_in A al b (A 0 3)).1) = M1 at hK1 hO' hP1
    rw [jp_319_0, hO'.2.1]
    refine z_eq (za_320 _ (by omega)) ?_
    rw [hP1.1 _ hR2, nI_add]
    refine z_eq (zp_320 _ (by omega)) (z_some ⟨?_, hK1.w⟩)
    exact hP1.w _ _
theorem c_shut (ho : o = 7 ∨ o = 57) (hW : z_W A) (hO : z_OC o A M) (hP : z_P3 A w bt pf M) (ht : pf 4 ≤ 1) {c : Nat} (hc : c < A 0 0) : f_Po_isShut 319 o (nI c) M = some (if pf 4 = 1 ∧ A 3 c = 1 then 1 else 0) := by
  have h0 : M.1 319 6 = nI (pf 4) := hP.2.2 4 (by decide)
  have h3 := (hW.2.2.2.2.2.2.2.1 c hc).2.2
  have hc0 := hW.1
  unfold f_Po_isShut
  rw [h0, jo_7 ho, zao_3 ho M (k := c) (by omega), (hO.2.2.2.2.2.2.2.1 c hc).2.2]
  by_cases h : pf 4 = 1
  · rw [h, if_neg (by decide)]
    show (if nI (A 3 c) = 1 then some 1 else some 0) = _
    by_cases h4 : A 3 c = 1
    · rw [h4]; rfl
    · have h5 : A 3 c = 0 := by omega
      rw [h5]; rfl
  · have h1 : pf 4 = 0 := by omega
    rw [h1]; rfl
/-- above: as the code reckons it -/
theorem z_abv {x y : Nat} (hx : x < 2 ^ 30) (hy : y < 2 ^ 30) : (0 < nI x - nI y ↔ y < x) := by
  have h := pk_sub_toInt hx hy
  rw [Int32.lt_iff_toInt_lt, h]
  show (0 : Int) < _ ↔ _
  omega
theorem c_flow (ho : o = 7 ∨ o = 57) (hW : z_W A) (hR : z_R A) (hO : z_OC o A M) (hP : z_P3 A w bt pf M) (ht : pf 4 ≤ 1) (hs : z_sum (A 0 0) w ≤ 1260) :
    z_ok (f_Po_flow 319 o M) (fun M' => z_P3 A (z_it (r_fl A (pf 4)) (A 0 0 - 1) w) bt pf M' ∧ z_PK M M') := by
  have hc0 := hW.1
  have hR1 := hR.1
  unfold f_Po_flow
  refine z_bind (P := fun M' => z_P3 A (z_it (r_fl A (pf 4)) (A 0 0 - 1) w) bt pf M' ∧ z_PK M M') ?_ (fun M' h => z_some h)
  refine z_loop (fun n c s => lp_Po_flow_2 319 o n c s) (fun c M' => z_P3 A (z_it (r_fl A (pf 4)) c w) bt pf M' ∧ z_PK M M') _ (A 0 0 - 1) ?_ ?_ jfuel 0 M (Nat.zero_le _) (by rw [z_jf]; omega) ⟨hP, z_PK.rf⟩
  · intro n c M' hc hI k
    obtain ⟨hP', hK⟩ := hI
    have hO' := hO.pk ho hK
    have hsum : z_sum (A 0 0) (z_it (r_fl A (pf 4)) c w) ≤ 1260 := by rw [r_fls_sum (by omega)]; exact hs
    have k' : ∀ M'', z_P3 A (r_fl A (pf 4) c (z_it (r_fl A (pf 4)) c w)) bt pf M'' → z_PK M M'' → z_ok (lp_Po_flow_2 319 o n (nI (c + 1)) M'') (fun M' => z_P3 A (z_it (r_fl A (pf 4)) (A 0 0 - 1) w) bt pf M' ∧ z_PK M M') := fun M'' h1 h2 => k M'' ⟨h1, h2⟩
    generalize z_it (r_fl A (pf 4)) c w = v at hP' hsum k'
    have hv1 : v c ≤ 1260 := Nat.le_trans (z_sum_le (by omega)) hsum
    have hv2 : v (c + 1) ≤ 1260 := Nat.le_trans (z_sum_le (by omega)) hsum
    have hb1 := (hW.2.2.2.2.2.2.2.1 c (by omega)).1
    have hb2 := (hW.2.2.2.2.2.2.2.1 (c + 1) (by omega)).1
    show z_ok (lp_Po_flow_2 319 o (n + 1) (nI c) M') _
    rw [lp_Po_flow_2]
    refine z_pos (by rw [hO'.1]; show nI c < nI (A 0 0) - nI 1; rw [z_sub (by omega)]; exact nI_lt hc (by omega)) ?_
    rw [jp_319_0, jo_5 ho, nI_1]
    refine z_eq (za_320 M' (by omega)) ?_
    refine z_eq (za_320 M' (by omega)) ?_
    refine z_eq (zao_1 ho M' (k := c) (by omega)) ?_
    refine z_eq (zao_1 ho M' (k := c + 1) (by omega)) ?_
    rw [hP'.1 c (by omega), hP'.1 (c + 1) (by omega), (hO'.2.2.2.2.2.2.2.1 c (by omega)).1, (hO'.2.2.2.2.2.2.2.1 (c + 1) (by omega)).1]
    have e : nI (A 1 c) + nI (v c) - nI (A 1 (c + 1)) - nI (v (c + 1)) = nI (A 1 c + v c) - nI (A 1 (c + 1) + v (c + 1)) := by
      rw [nI_add, ← nI_add (A 1 (c + 1))]
      generalize nI (A 1 c + v c) = x
      generalize nI (A 1 (c + 1)) = y
      generalize nI (v (c + 1)) = z
      rw [Int32.sub_eq_add_neg, Int32.sub_eq_add_neg, Int32.sub_eq_add_neg, Int32.neg_add, Int32.sub_eq_add_neg, Int32.add_assoc]
    rw [e]
    refine z_bind (P := fun M'' => z_P3 A (r_fl A (pf 4) c v) bt pf M'' ∧ z_PK M M'') ?_ (fun M'' h => k' M'' h.1 h.2)
    refine z_ite (fun h => ?_) (fun h => ?_)
    · have h1 := (z_abv (by omega) (by omega)).mp h
      refine z_eq (c_shut ho hW hO' hP' ht (by omega)) ?_
      by_cases hsh : pf 4 = 1 ∧ A 3 c = 1
      · rw [if_pos hsh]
        refine z_neg (by decide) (z_some ?_)
        unfold r_fl
        rw [if_neg (fun q => q.2 hsh)]
        exact ⟨hP', hK⟩
      · rw [if_neg hsh]
        refine z_pos rfl ?_
        have e2 : jmin ((nI (A 1 c + v c) - nI (A 1 (c + 1) + v (c + 1))) / 2) (nI (v c)) = nI (min ((A 1 c + v c - (A 1 (c + 1) + v (c + 1))) / 2) (v c)) := by
          rw [z_sub (by omega), show (2 : Int32) = nI 2 from rfl, pk_div (by omega) (by decide) (by decide), z_jmin (by omega) (by omega)]
        rw [e2]
        have hm : min ((A 1 c + v c - (A 1 (c + 1) + v (c + 1))) / 2) (v c) ≤ v c := Nat.min_le_right _ _
        rw [z_sub hm, nI_add]
        refine z_eq (zp_320 _ (by omega)) ?_
        refine z_eq (zp_320 _ (by omega)) (z_some ⟨?_, hK.w.w⟩)
        unfold r_fl
        rw [if_pos ⟨h1, hsh⟩]
        exact (hP'.w _ _).w _ _
    · refine z_some ?_
      have h1 : ¬ A 1 (c + 1) + v (c + 1) < A 1 c + v c := fun q => h ((z_abv (by omega) (by omega)).mpr q)
      unfold r_fl
      rw [if_neg (fun q => h1 q.1)]
      exact ⟨hP', hK⟩
  · intro n M' hI
    have hO' := hO.pk ho hI.2
    show z_ok (lp_Po_flow_2 319 o (n + 1) (nI (A 0 0 - 1)) M') _
    rw [lp_Po_flow_2]
    refine z_neg (by rw [hO'.1]; show ¬ nI (A 0 0 - 1) < nI (A 0 0) - nI 1; rw [z_sub (by omega)]; exact nI_nlt (Nat.le_refl _) (by omega)) (z_some hI)
end
section
variable {A : ZA} {o : Nat} {M : SM} {w bt pf : Nat → Nat} {al : Nat → Nat → Nat} {b : Nat}
theorem c_runOut (hW : z_W A) (hR : z_R A) (hP : z_P3 A w bt pf M) (hs : z_sum (A 0 0) w ≤ 1260) :
    z_ok (f_Po_runOut 319 (nI (A 0 0 - 1)) M) (fun M' => z_P3 A (r_w3 A w) bt (z_u pf 1 (pf 1 + w (A 0 0 - 1) / 2)) M' ∧ z_PK M M') := by
  have hc0 := hW.1
  have hR1 := hR.1
  have hv : w (A 0 0 - 1) ≤ 1260 := Nat.le_trans (z_sum_le (by omega)) hs
  unfold f_Po_runOut
  rw [jp_319_0]
  refine z_eq (za_320 _ (by omega)) ?_
  refine z_eq (za_320 _ (by omega)) ?_
  rw [hP.1 _ (by omega), zl_2, pk_div (by omega) (by decide) (by decide), z_sub (by omega)]
  refine z_eq (zp_320 _ (by omega)) (z_some ⟨?_, z_PK.rf.w.p (by decide)⟩)
  have h1 := hP.w (A 0 0 - 1) (w (A 0 0 - 1) - w (A 0 0 - 1) / 2)
  have h2 : (sI M 320 (A 0 0 - 1) (nI (w (A 0 0 - 1) - w (A 0 0 - 1) / 2))).1 319 3 = nI (pf 1) := h1.2.2 1 (by decide)
  rw [h2, nI_add]
  exact h1.p 1 _
theorem c_drink (ho : o = 7 ∨ o = 57) (hW : z_W A) (hO : z_OC o A M) (hP : z_P3 A w bt pf M) (hs : z_sum (A 0 0) w ≤ 1260) :
    z_ok (f_Po_drink 319 o M) (fun M' => z_P3 A (z_it (r_dr A) (A 0 6) (w, 0)).1 bt (z_u pf 2 (pf 2 + (z_it (r_dr A) (A 0 6) (w, 0)).2)) M' ∧ z_PK M M') := by
  obtain ⟨hc0, w2, w3, w4, w5, w6, w7, w8, w9, w10, w11, w12⟩ := id hW
  unfold f_Po_drink
  refine z_bind (P := fun M' => z_P3 A (z_it (r_dr A) (A 0 6) (w, 0)).1 bt (z_u pf 2 (pf 2 + (z_it (r_dr A) (A 0 6) (w, 0)).2)) M' ∧ z_PK M M') ?_ (fun M' h => z_some h)
  refine z_loop (fun n c s => lp_Po_drink_2 319 o n c s) (fun c M' => z_P3 A (z_it (r_dr A) c (w, 0)).1 bt (z_u pf 2 (pf 2 + (z_it (r_dr A) c (w, 0)).2)) M' ∧ z_PK M M') _ (A 0 6) ?_ ?_ jfuel 0 M (Nat.zero_le _) (by rw [z_jf]; omega) ⟨hP.cg rfl rfl (fun k _ => by unfold z_u; split; (next e => subst e; rfl); rfl), z_PK.rf⟩
  · intro n c M' hc hI k
    obtain ⟨hP', hK⟩ := hI
    have hO' := hO.pk ho hK
    have hsum := r_drs_sum (A := A) (s := (w, 0)) (n := A 0 0) (fun i hi => (w12 i hi).1) (k := c) (by omega)
    have k' : ∀ M'', z_P3 A (r_dr A c (z_it (r_dr A) c (w, 0))).1 bt (z_u pf 2 (pf 2 + (r_dr A c (z_it (r_dr A) c (w, 0))).2)) M'' → z_PK M M'' → z_ok (lp_Po_drink_2 319 o n (nI (c + 1)) M'') (fun M' => z_P3 A (z_it (r_dr A) (A 0 6) (w, 0)).1 bt (z_u pf 2 (pf 2 + (z_it (r_dr A) (A 0 6) (w, 0)).2)) M' ∧ z_PK M M') := fun M'' h1 h2 => k M'' ⟨h1, h2⟩
    generalize z_it (r_dr A) c (w, 0) = v at hP' hsum k'
    have hsum : z_sum (A 0 0) v.1 + v.2 = z_sum (A 0 0) w + 0 := hsum
    have h12 := w12 c hc
    have hv1 : v.1 (A 9 c) ≤ 1260 := Nat.le_trans (z_sum_le h12.1) (by omega)
    obtain ⟨h9, h10⟩ := hO'.2.2.2.2.2.2.2.2.2.2.2 c hc
    show z_ok (lp_Po_drink_2 319 o (n + 1) (nI c) M') _
    rw [lp_Po_drink_2, jo_12 ho]
    refine z_pos (by rw [hO'.2.2.2.2.2.2.1]; exact nI_lt hc (by omega)) ?_
    refine z_eq (r := nI (A 9 c)) (by unfold f_St_cellOfOne; rw [jo_36_0 ho, zao_37 ho M' (by omega), h9]; rfl) ?_
    refine z_eq (r := nI (A 10 c)) (by unfold f_St_amountOf; rw [jo_36_1 ho, zao_38 ho M' (by omega), h10]; rfl) ?_
    rw [jp_319_0]
    refine z_eq (za_320 _ (by omega)) ?_
    refine z_eq (za_320 _ (by omega)) ?_
    rw [hP'.1 _ h12.1, z_jmin (by omega) (by omega), z_sub (Nat.min_le_right _ _)]
    refine z_eq (zp_320 _ (by omega)) ?_
    rw [nI_1]
    have h1 := hP'.w (A 9 c) (v.1 (A 9 c) - min (A 10 c) (v.1 (A 9 c)))
    have h2 := h1.2.2 2 (by decide)
    have h2 : (sI M' 320 (A 9 c) (nI (v.1 (A 9 c) - min (A 10 c) (v.1 (A 9 c))))).1 319 4 = nI (pf 2 + v.2) := by
      have := h1.2.2 2 (by decide)
      rw [z_us] at this
      exact this
    rw [h2, nI_add]
    refine k' _ ?_ (hK.w.p (by decide))
    exact (h1.p 2 (pf 2 + v.2 + min (A 10 c) (v.1 (A 9 c)))).cg rfl rfl (fun j _ => by unfold z_u r_dr; split; (next e => exact Nat.add_assoc _ _ _); rfl)
  · intro n M' hI
    have hO' := hO.pk ho hI.2
    show z_ok (lp_Po_drink_2 319 o (n + 1) (nI (A 0 6)) M') _
    rw [lp_Po_drink_2, jo_12 ho]
    exact z_neg (by rw [hO'.2.2.2.2.2.2.1]; exact nI_nlt (Nat.le_refl _) (by omega)) (z_some hI)
theorem c_spill (ho : o = 7 ∨ o = 57) (hW : z_W A) (hO : z_OC o A M) (hP : z_P3 A w bt pf M) (hs : z_sum (A 0 0) w ≤ 1260) :
    z_ok (f_Po_spill 319 o M) (fun M' => z_P3 A (z_it (r_sp A) (A 0 0) (w, 0)).1 bt (z_u pf 3 (pf 3 + (z_it (r_sp A) (A 0 0) (w, 0)).2)) M' ∧ z_PK M M') := by
  obtain ⟨hc0, w2, w3, w4, w5, w6, w7, w8, w9, w10, w11, w12⟩ := id hW
  unfold f_Po_spill
  refine z_bind (P := fun M' => z_P3 A (z_it (r_sp A) (A 0 0) (w, 0)).1 bt (z_u pf 3 (pf 3 + (z_it (r_sp A) (A 0 0) (w, 0)).2)) M' ∧ z_PK M M') ?_ (fun M' h => z_some h)
  refine z_loop (fun n c s => lp_Po_spill_2 319 o n c s) (fun c M' => z_P3 A (z_it (r_sp A) c (w, 0)).1 bt (z_u pf 3 (pf 3 + (z_it (r_sp A) c (w, 0)).2)) M' ∧ z_PK M M') _ (A 0 0) ?_ ?_ jfuel 0 M (Nat.zero_le _) (by rw [z_jf]; omega) ⟨hP.cg rfl rfl (fun k _ => by unfold z_u; split; (next e => subst e; rfl); rfl), z_PK.rf⟩
  · intro n c M' hc hI k
    obtain ⟨hP', hK⟩ := hI
    have hO' := hO.pk ho hK
    have hsum := r_sps_sum (A := A) (s := (w, 0)) (n := A 0 0) (k := c) (by omega)
    have k' : ∀ M'', z_P3 A (r_sp A c (z_it (r_sp A) c (w, 0))).1 bt (z_u pf 3 (pf 3 + (r_sp A c (z_it (r_sp A) c (w, 0))).2)) M'' → z_PK M M'' → z_ok (lp_Po_spill_2 319 o n (nI (c + 1)) M'') (fun M' => z_P3 A (z_it (r_sp A) (A 0 0) (w, 0)).1 bt (z_u pf 3 (pf 3 + (z_it (r_sp A) (A 0 0) (w, 0)).2)) M' ∧ z_PK M M') := fun M'' h1 h2 => k M'' ⟨h1, h2⟩
    generalize z_it (r_sp A) c (w, 0) = v at hP' hsum k'
    have hsum : z_sum (A 0 0) v.1 + v.2 = z_sum (A 0 0) w + 0 := hsum
    have hv1 : v.1 c ≤ 1260 := Nat.le_trans (z_sum_le hc) (by omega)
    show z_ok (lp_Po_spill_2 319 o (n + 1) (nI c) M') _
    rw [lp_Po_spill_2, jp_319_0]
    refine z_pos (by rw [hO'.1]; exact nI_lt hc (by omega)) ?_
    refine z_eq (za_320 _ (by omega)) ?_
    refine z_eq (za_320 _ (by omega)) ?_
    rw [hP'.1 _ hc, hO'.2.2.1, z_jm0 (by omega) (by omega), z_sub (Nat.sub_le _ _)]
    refine z_eq (zp_320 _ (by omega)) ?_
    rw [nI_1]
    have h1 := hP'.w c (v.1 c - (v.1 c - A 0 2))
    have h2 : (sI M' 320 c (nI (v.1 c - (v.1 c - A 0 2)))).1 319 5 = nI (pf 3 + v.2) := by
      have := h1.2.2 3 (by decide)
      rw [z_us] at this
      exact this
    rw [h2, nI_add]
    refine k' _ ?_ (hK.w.p (by decide))
    refine (h1.p 3 (pf 3 + v.2 + (v.1 c - A 0 2))).cg ?_ rfl (fun j _ => by unfold z_u r_sp; split; (next e => exact Nat.add_assoc _ _ _); rfl)
    show z_u v.1 c (v.1 c - (v.1 c - A 0 2)) = z_u v.1 c (min (v.1 c) (A 0 2))
    rw [show v.1 c - (v.1 c - A 0 2) = min (v.1 c) (A 0 2) by omega]
  · intro n M' hI
    have hO' := hO.pk ho hI.2
    show z_ok (lp_Po_spill_2 319 o (n + 1) (nI (A 0 0)) M') _
    rw [lp_Po_spill_2]
    exact z_neg (by rw [hO'.1]; exact nI_nlt (Nat.le_refl _) (by omega)) (z_some hI)
theorem c_draft (ho : o = 7 ∨ o = 57) (hW : z_W A) (hO : z_OC o A M) {i : Nat} (hi : i < A 0 5) : f_St_amountOf (o + 33) (nI i) M = some (nI (A 8 i)) := by
  have := hW.2.2.2.1
  unfold f_St_amountOf
  rw [jo_33_1 ho, zao_35 ho M (by omega), (hO.2.2.2.2.2.2.2.2.2.2.1 i hi).2]; rfl
theorem c_aground (ho : o = 7 ∨ o = 57) (hW : z_W A) (hO : z_OC o A M) (hP : z_P3 A w bt pf M) (hw : ∀ c, c < A 0 0 → w c ≤ 1260) (hb : ∀ i, i < A 0 5 → bt i < A 0 0) {i : Nat} (hi : i < A 0 5) : f_Po_isAground 319 o (nI i) M = some (if w (bt i) < A 8 i then 1 else 0) := by
  have h4 := hW.2.2.2.1
  have h1 := hW.1
  have h2 := hb i hi
  have h3 := hw _ h2
  have h5 := (hW.2.2.2.2.2.2.2.2.2.2.1 i hi).2
  unfold f_Po_isAground
  rw [jp_319_1, za_321 M (by omega), hP.2.1 i hi, jp_319_0, jo_11 ho, c_draft ho hW hO hi]
  show (f_Sp_at 320 (nI (bt i)) M).bind (fun q2 => if q2 < nI (A 8 i) then some 1 else some 0) = _
  rw [za_320 M (by omega), hP.1 _ h2]
  show (if nI (w (bt i)) < nI (A 8 i) then some 1 else some 0) = _
  by_cases h : w (bt i) < A 8 i
  · rw [if_pos (nI_lt h (by omega)), if_pos h]
  · rw [if_neg (nI_nlt (by omega) (by omega)), if_neg h]
theorem c_last (hW : z_W A) (hR : z_R A) (h1 : M.1 o 1 = nI (A 0 0)) (hP : z_P3 A w bt pf M) (hb : ∀ i, i < A 0 5 → bt i < A 0 0) {i : Nat} (hi : i < A 0 5) : f_Po_isLast 319 o (nI i) M = some (if bt i = A 0 0 - 1 then 1 else 0) := by
  have h4 := hW.2.2.2.1
  have h5 := hW.1
  have h6 := hR.1
  have h2 := hb i hi
  unfold f_Po_isLast
  rw [jp_319_1, za_321 M (by omega), hP.2.1 i hi, h1, z_ls (by omega)]
  show (if nI (bt i) = nI (A 0 0 - 1) then some 1 else some 0) = _
  by_cases h : bt i = A 0 0 - 1
  · rw [if_pos (by rw [h]), if_pos h]
  · rw [if_neg (fun e => h ((nI_eq (by omega) (by omega)).mp e)), if_neg h]
theorem c_sail (ho : o = 7 ∨ o = 57) (hW : z_W A) (hR : z_R A) (hO : z_OC o A M) (hP : z_P3 A w bt pf M) (ht : pf 4 ≤ 1) (hw : ∀ c, c < A 0 0 → w c ≤ 1260) (hb : ∀ i, i < A 0 5 → bt i < A 0 0) :
    z_ok (f_Po_sail 319 o M) (fun M' => z_P3 A w (z_it (r_sa A (pf 4) w) (A 0 5) bt) pf M' ∧ z_PK M M') := by
  obtain ⟨hc0, w2, w3, w4, w5, w6, w7, w8, w9, w10, w11, w12⟩ := id hW
  have hR1 := hR.1
  unfold f_Po_sail
  refine z_bind (P := fun M' => z_P3 A w (z_it (r_sa A (pf 4) w) (A 0 5) bt) pf M' ∧ z_PK M M') ?_ (fun M' h => z_some h)
  refine z_loop (fun n c s => lp_Po_sail_2 319 o n c s) (fun c M' => z_P3 A w (z_it (r_sa A (pf 4) w) c bt) pf M' ∧ z_PK M M') _ (A 0 5) ?_ ?_ jfuel 0 M (Nat.zero_le _) (by rw [z_jf]; omega) ⟨hP, z_PK.rf⟩
  · intro n c M' hc hI k
    obtain ⟨hP', hK⟩ := hI
    have hO' := hO.pk ho hK
    have hb' := r_bt_b (A := A) (t := pf 4) (w := w) hb (k := c)
    have k' : ∀ M'', z_P3 A w (r_sa A (pf 4) w c (z_it (r_sa A (pf 4) w) c bt)) pf M'' ∧ z_PK M M'' → z_ok (lp_Po_sail_2 319 o n (nI (c + 1)) M'') (fun M' => z_P3 A w (z_it (r_sa A (pf 4) w) (A 0 5) bt) pf M' ∧ z_PK M M') := fun M'' h => k M'' h
    generalize z_it (r_sa A (pf 4) w) c bt = v at hP' hb' k'
    have hv := hb' c hc
    have h8 := (w11 c hc).2
    show z_ok (lp_Po_sail_2 319 o (n + 1) (nI c) M') _
    rw [lp_Po_sail_2, jo_11 ho]
    refine z_pos (by rw [hO'.2.2.2.2.2.1]; exact nI_lt hc (by omega)) ?_
    rw [jp_319_1, nI_1]
    refine z_eq (za_321 _ (by omega)) ?_
    rw [hP'.2.1 c hc]
    refine z_eq (c_aground ho hW hO' hP' hw hb' hc) ?_
    have hno : ¬ (A 8 c ≤ w (v c) ∧ v c ≠ A 0 0 - 1 ∧ ¬ (pf 4 = 1 ∧ A 3 (v c) = 1) ∧ A 8 c ≤ w (v c + 1)) → z_P3 A w (r_sa A (pf 4) w c v) pf M' ∧ z_PK M M' := fun h => by
      unfold r_sa; rw [if_neg h]; exact ⟨hP', hK⟩
    refine z_eq (r := if w (v c) < A 8 c ∨ v c = A 0 0 - 1 then 0 else 1) ?_ ?_
    · by_cases g1 : w (v c) < A 8 c
      · rw [if_pos g1, if_pos (Or.inl g1)]; rfl
      · rw [if_neg g1, c_last hW hR hO'.1 hP' hb' hc]
        by_cases g2 : v c = A 0 0 - 1
        · rw [if_pos g2, if_pos (Or.inr g2)]; rfl
        · rw [if_neg g2]
          show some 1 = some (if w (v c) < A 8 c ∨ v c = A 0 0 - 1 then 0 else 1)
          rw [if_neg (fun q => q.elim g1 g2)]
    · refine z_bind (P := fun M'' => z_P3 A w (r_sa A (pf 4) w c v) pf M'' ∧ z_PK M M'') ?_ (fun M'' h => k' M'' h)
      by_cases g : w (v c) < A 8 c ∨ v c = A 0 0 - 1
      · rw [if_pos g]
        exact z_pos rfl (z_some (hno (fun q => g.elim (fun r => by omega) q.2.1)))
      · rw [if_neg g]
        refine z_neg (by decide) ?_
        refine z_eq (c_shut ho hW hO' hP' ht hv) ?_
        by_cases g3 : pf 4 = 1 ∧ A 3 (v c) = 1
        · rw [if_pos g3]
          exact z_neg (by decide) (z_some (hno (fun q => q.2.2.1 g3)))
        · rw [if_neg g3]
          refine z_pos rfl ?_
          rw [jp_319_0, nI_1]
          refine z_eq (za_320 _ (by omega)) ?_
          rw [hP'.1 _ (by omega)]
          refine z_eq (c_draft ho hW hO' hc) ?_
          have hw1 := hw (v c + 1) (by omega)
          refine z_lt _ _ rfl rfl (by omega) (by omega) (fun g4 => z_some (hno (fun q => by omega))) (fun g4 => ?_)
          refine z_eq (zp_321 _ (by omega)) (z_some ⟨?_, hK.b⟩)
          unfold r_sa
          rw [if_pos ⟨by omega, fun r => g (Or.inr r), g3, g4⟩]
          exact hP'.b _ _
  · intro n M' hI
    have hO' := hO.pk ho hI.2
    show z_ok (lp_Po_sail_2 319 o (n + 1) (nI (A 0 5)) M') _
    rw [lp_Po_sail_2, jo_11 ho]
    exact z_neg (by rw [hO'.2.2.2.2.2.1]; exact nI_nlt (Nat.le_refl _) (by omega)) (z_some hI)
/-- the pool holds S -/
def z_PS (A : ZA) (S : ZS) (M : SM) : Prop := z_P3 A S.1 S.2.1 (fun k => if k = 4 then (M.1 319 6).toNatClampNeg else S.2.2 k) M
theorem c_play {S : ZS} (ho : o = 7 ∨ o = 57) (hW : z_W A) (hR : z_R A) (hO : z_OC o A M) (hG : z_G A S) {pf : Nat → Nat} (hP : z_P3 A S.1 S.2.1 pf M) (hal : ∀ d, d < A 0 3 → al d b ≤ 3) (ha : ∀ M', z_PK M M' → ∀ d, d < A 0 3 → f_Po_act 319 o (nI d) (nI b) M' = some (nI (al d b))) :
    z_ok (f_Po_play 319 o (nI b) M) (fun M' => z_P3 A (r_bar A al b S).1 (r_bar A al b S).2.1 (fun k => if k = 4 then r_on A al b S.1 4 else pf k + r_on A al b S.1 k) M' ∧ z_PK M M') := by
  have hin := r_in_b (A := A) (al := al) (b := b) hW.2.2.2.2.2.2.2.2.1 (Nat.le_refl _)
  unfold f_Po_play
  refine z_bind (c_bow ho hW hR hO hP hal ha) (fun M1 h1 => ?_)
  have O1 := hO.pk ho h1.2
  have e4 : z_u (z_u pf 4 (r_in A al b (A 0 3)).2) 0 (pf 0 + (r_in A al b (A 0 3)).1) 4 = (r_in A al b (A 0 3)).2 := rfl
  refine z_bind (c_flow ho hW hR O1 h1.1 (by rw [e4]; exact hin.2) (r_w1_sum hW hR hG.1)) (fun M2 h2 => ?_)
  have K2 := h1.2.tr h2.2
  have O2 := hO.pk ho K2
  rw [e4] at h2
  have P2 : z_P3 A (r_w2 A al b S.1) S.2.1 _ M2 := h2.1
  have e5 : M2.1 o 1 - 1 = nI (A 0 0 - 1) := by rw [O2.1, z_ls (by have := hR.1; omega)]
  rw [e5]
  refine z_bind (c_runOut hW hR P2 (r_w2_sum hW hR hG.1)) (fun M3 h3 => ?_)
  have K3 := K2.tr h3.2
  have O3 := hO.pk ho K3
  have s3 : z_sum (A 0 0) (r_w3 A (r_w2 A al b S.1)) ≤ 1260 := by
    have := r_w3_sum (A := A) (w := r_w2 A al b S.1) hR
    have := r_w2_sum (al := al) (b := b) hW hR hG.1
    omega
  refine z_bind (c_drink ho hW O3 h3.1 s3) (fun M4 h4 => ?_)
  have K4 := K3.tr h4.2
  have O4 := hO.pk ho K4
  have s4 : z_sum (A 0 0) (r_w4 A al b S.1).1 ≤ 1260 := by
    have := r_w4_sum (al := al) (b := b) hW hR hG.1
    omega
  refine z_bind (c_spill ho hW O4 h4.1 s4) (fun M5 h5 => ?_)
  have K5 := K4.tr h5.2
  have O5 := hO.pk ho K5
  have P5 : z_P3 A (r_w5 A al b S.1).1 S.2.1 _ M5 := h5.1
  refine z_bind (c_sail ho hW hR O5 P5 hin.2 (fun c hc => Nat.le_trans (r_sps_b.1 c hc) (Nat.le_trans hW.2.2.2.2.2.2.1 (by decide))) hG.2) (fun M6 h6 => z_some ⟨?_, K5.tr h6.2⟩)
  refine h6.1.cg rfl rfl (fun k hk => ?_)
  match k, hk with
  | 0, _ => rfl
  | 1, _ => rfl
  | 2, _ => rfl
  | 3, _ => rfl
  | 4, _ => rfl
  | k + 5, h => omega
end
