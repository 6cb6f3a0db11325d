/-! ===== pure: a PART, both ===== -/
def zw_times : List Nat := [116, 105, 109, 101, 115]
/-- both stand at b with c BARS B told, o brackets open in the reference, begun at st -/
def z_PC1 (T : Nat → Nat) (n b : Nat) (B : Nat → Nat) (c : Nat) (M : SM) : Prop := z_RD T n b M ∧ z_tc n T M ∧ z_BC B c M
def z_PM1 (T : Nat → Nat) (n b a : Nat) (B : Nat → Nat) (c o : Nat) (st : Nat → Nat) (N : SM) : Prop := z_RF T n b a N ∧ z_BM B c N ∧ N.1 366 46 = nI o ∧ ∀ j, j < o → N.1 398 j = nI (st j)
def z_KT (N : SM) : Prop := ∀ i, i < 5 → N.1 384 i = nI (zw_times.getD i 0)
theorem z_KT.px {N N' : SM} (h : z_KT N) (k : z_PX N N') : z_KT N' := fun i hi => by rw [k.1.1 384 (by decide)]; exact h i hi
def z_F1 (f : Nat) (N : SM) : Option SM := lp_Mo_groupTold_17 366 f 1 N
def z_F2 (g f : Nat) (N : SM) : Option SM := (lp_Mo_groupTold_48 366 g N).bind fun q13 => (if 0 < (q13.1 366 46) then (some 1) else (some 0) : Option (Int32)).bind fun q14 => lp_Mo_groupTold_17 366 f q14 q13
theorem z_F1_bad {N : SM} (h : N.1 366 5 ≠ 0) (f : Nat) : z_F1 (f + 1) N = some N := by
  unfold z_F1
  rw [lp_Mo_groupTold_17, if_neg h]
theorem z_17_bad {N : SM} {x : Int32} (h : N.1 366 5 ≠ 0) (f : Nat) : lp_Mo_groupTold_17 366 (f + 1) x N = some N := by
  rw [lp_Mo_groupTold_17, if_neg h]
theorem z_F2_bad {N : SM} (h : N.1 366 5 ≠ 0) (g f : Nat) : z_F2 (g + 1) (f + 1) N = some N := by
  unfold z_F2
  rw [lp_Mo_groupTold_48, if_neg h]
  simp only [Option.bind_some]
  by_cases c : 0 < N.1 366 46
  · rw [if_pos c]; simp only [Option.bind_some]; exact z_17_bad h f
  · rw [if_neg c]; simp only [Option.bind_some]; exact z_17_bad h f
theorem z_MF.bad {f p : Nat} {N : SM} (h : z_MF f p N) (hf : 0 < f) (hf2 : f < 100) : N.1 366 5 ≠ 0 := by rw [h.1]; exact nI_ne0 hf (by omega)
/-- BARS that are told again: from c0 on up to c1 -/
def z_rp (B : Nat → Nat) (c0 c1 : Nat) (k : Nat) : Nat := if k < c1 then B k else B (c0 + (k - c0) % (c1 - c0))
theorem z_rp_i {c0 c1 k : Nat} (h : c0 < c1) (hk : c1 ≤ k) : c0 + (k - c0) % (c1 - c0) < c1 ∧ c0 + (k - c0) % (c1 - c0) ≤ k := by
  have := Nat.mod_lt (k - c0) (show 0 < c1 - c0 by omega)
  have := Nat.mod_le (k - c0) (c1 - c0)
  omega
theorem z_rp_s {B : Nat → Nat} {c0 c1 k : Nat} (h : c0 < c1) (hk : c1 ≤ k) : z_rp B c0 c1 (k - (c1 - c0)) = z_rp B c0 c1 k := by
  unfold z_rp
  rw [if_neg (show ¬ k < c1 by omega)]
  have e : (k - c0) % (c1 - c0) = (k - (c1 - c0) - c0) % (c1 - c0) := by
    rw [show k - c0 = (k - (c1 - c0) - c0) + (c1 - c0) by omega, Nat.add_mod_right]
  by_cases q : k - (c1 - c0) < c1
  · rw [if_pos q, e, Nat.mod_eq_of_lt (by omega)]
    congr 1; omega
  · rw [if_neg q, e]
section
variable {T : Nat → Nat} {n : Nat} {M : SM} {B : Nat → Nat}
theorem c_repeat {c0 c1 t : Nat} (hB : z_BC B c1 M) (h01 : c0 < c1) (ht : 2 ≤ t) (ht9 : t ≤ 9) (hc1 : c1 < 2 ^ 30) :
    z_ok (f_Pr_repeat 5 (nI (min 1000 c0)) (nI t) M) (fun M' => z_BC (z_rp B c0 c1) (c0 + (c1 - c0) * t) M' ∧ z_Fr (fun i => i ≠ 5 ∧ i ≠ 6) M M') := by
  unfold f_Pr_repeat
  have hmul : min 1000 (min 1000 c0 + (min 1000 c1 - min 1000 c0) * t) = min 1000 (c0 + (c1 - c0) * t) := by
    have h1 : 2 * (c1 - c0) ≤ (c1 - c0) * t := by rw [Nat.mul_comm]; exact Nat.mul_le_mul_left _ ht
    by_cases q : c1 ≤ 1000
    · rw [Nat.min_eq_right (show c0 ≤ 1000 by omega), Nat.min_eq_right q]
    · have h2 : 2 * (min 1000 c1 - min 1000 c0) ≤ (min 1000 c1 - min 1000 c0) * t := by rw [Nat.mul_comm]; exact Nat.mul_le_mul_left _ ht
      omega
  have hsm : (min 1000 c1 - min 1000 c0) * t ≤ 1000 * 9 := Nat.mul_le_mul (by omega) ht9
  rw [hB.1, z_sub (show min 1000 c0 ≤ min 1000 c1 by omega), pk_mul, nI_add, show (1000 : Int32) = nI 1000 from rfl, z_jmin (by decide) (by omega), hmul]
  generalize hstop : min 1000 (c0 + (c1 - c0) * t) = stop
  have h1 : 2 * (c1 - c0) ≤ (c1 - c0) * t := by rw [Nat.mul_comm]; exact Nat.mul_le_mul_left _ ht
  refine z_bind (P := fun M' => z_Fr (fun i => i ≠ 6) M M' ∧ ∀ k, k < 60 → k < stop → M'.1 6 k = nI (z_rp B c0 c1 k)) ?_ (fun M' hM' => z_some ⟨⟨by rw [z_sIs, hstop], fun k k1 k2 => ?_⟩, ⟨fun i hi => ?_, hM'.1.2⟩⟩)
  · refine z_loop (fun m k s => lp_Pr_repeat_26 5 (nI (min 1000 c1 - min 1000 c0)) (nI stop) m k s) (fun j M' => min 1000 c1 ≤ j ∧ z_Fr (fun i => i ≠ 6) M M' ∧ ∀ k, k < 60 → k < j → M'.1 6 k = nI (z_rp B c0 c1 k)) _ stop ?_ ?_ jfuel (min 1000 c1) M (by omega) (by rw [z_jf]; omega) ⟨Nat.le_refl _, z_Fr.rf, fun k k1 k2 => by unfold z_rp; rw [if_pos (by omega)]; exact hB.2 k k1 (by omega)⟩
    · intro m j M' hj hI kk
      obtain ⟨i0, i1, i2⟩ := hI
      show z_ok (lp_Pr_repeat_26 5 (nI (min 1000 c1 - min 1000 c0)) (nI stop) (m + 1) (nI j) M') _
      rw [lp_Pr_repeat_26, jp_5_1, z_sub (show min 1000 c1 - min 1000 c0 ≤ j by omega)]
      refine z_pos (nI_lt hj (by omega)) ?_
      by_cases c6 : j < 60
      · have e1 : min 1000 c1 - min 1000 c0 = c1 - c0 := by omega
        refine z_eq (za_6 _ (by omega)) ?_
        refine z_eq (zp_6 _ c6) ?_
        rw [nI_1, i2 (j - (min 1000 c1 - min 1000 c0)) (by omega) (by omega), show j - (min 1000 c1 - min 1000 c0) = j - (c1 - c0) by omega, z_rp_s h01 (by omega)]
        refine kk (sI M' 6 j (nI (z_rp B c0 c1 j))) ⟨by omega, i1.sI (by omega), fun k k1 k2 => ?_⟩
        by_cases e : k = j
        · subst e; rw [z_sIs]
        · rw [z_sIk _ _ _ _ e]; exact i2 k k1 (by omega)
      · refine z_bind (P := fun _ => True) ?_ (fun v _ => ?_)
        · by_cases c7 : j - (min 1000 c1 - min 1000 c0) < 60
          · exact ⟨_, za_6 _ c7, trivial⟩
          · exact ⟨_, z_atO jl_6 (by omega) (by omega), trivial⟩
        · refine z_eq (z_putO jl_6 (by omega) (by omega)) ?_
          rw [nI_1]
          exact kk _ ⟨by omega, i1, fun k k1 k2 => i2 k k1 (by omega)⟩
    · intro m M' hI
      show z_ok (lp_Pr_repeat_26 5 (nI (min 1000 c1 - min 1000 c0)) (nI stop) (m + 1) (nI stop) M') _
      rw [lp_Pr_repeat_26]
      exact z_neg (nI_nlt (Nat.le_refl _) (by omega)) (z_some ⟨hI.2.1, fun k k1 k2 => hI.2.2 k k1 k2⟩)
  · rw [z_sIa _ _ _ _ (by decide)]
    exact hM'.2 k k1 (by omega)
  · rw [z_sIa _ _ _ _ hi.1]; exact hM'.1.1 i hi.2
theorem m_repeat {N : SM} {c0 c1 t : Nat} (hB : z_BM B c1 N) (h01 : c0 < c1) (ht : 2 ≤ t) (ht9 : t ≤ 9) (hc1 : c1 < 10 ^ 8) :
    z_ok (lp_Mo_closes_60 366 (nI t) (nI c0) (nI (c1 - c0)) jfuel 0 N) (fun N' => (∀ k, k < 60 → k < c0 + (c1 - c0) * t → N'.1 397 k = nI (z_rp B c0 c1 k)) ∧ z_PX N N' ∧ ∀ i, i ≠ 44 → N'.1 366 i = N.1 366 i ∧ N'.1 398 = N.1 398) := by
  have h1 : 2 * (c1 - c0) ≤ (c1 - c0) * t := by rw [Nat.mul_comm]; exact Nat.mul_le_mul_left _ ht
  have h9 : (c1 - c0) * t ≤ (c1 - c0) * 9 := Nat.mul_le_mul_left _ ht9
  have hm : (c1 - c0) * (t - 1) = (c1 - c0) * t - (c1 - c0) := by rw [Nat.mul_sub, Nat.mul_one]
  show z_ok (lp_Mo_closes_60 366 (nI t) (nI c0) (nI (c1 - c0)) jfuel (nI 0) N) _
  -- up to 60, or all
  have K : ∃ K, K = min (60 - min 60 c1) ((c1 - c0) * (t - 1)) := ⟨_, rfl⟩
  obtain ⟨K, hK⟩ := K
  refine z_loop (fun m j s => lp_Mo_closes_60 366 (nI t) (nI c0) (nI (c1 - c0)) m j s) (fun j N' => N'.1 366 44 = nI (c1 + j) ∧ (∀ k, k < 60 → k < c1 + j → N'.1 397 k = nI (z_rp B c0 c1 k)) ∧ z_PX N N' ∧ ∀ i, i ≠ 44 → N'.1 366 i = N.1 366 i ∧ N'.1 398 = N.1 398) _ K ?_ ?_ jfuel 0 N (Nat.zero_le _) (by rw [z_jf]; omega) ⟨hB.1, fun k k1 k2 => by unfold z_rp; rw [if_pos (by omega)]; exact hB.2 k k1 (by omega), z_PX.rf, fun _ _ => ⟨rfl, rfl⟩⟩
  · intro m j N' hj hI kk
    obtain ⟨i1, i2, i3, i4⟩ := hI
    show z_ok (lp_Mo_closes_60 366 (nI t) (nI c0) (nI (c1 - c0)) (m + 1) (nI j) N') _
    rw [lp_Mo_closes_60, z_ls (by omega), pk_mul, i1, jm_43, nI_add, show (60 : Int32) = nI 60 from rfl]
    refine z_pos (nI_lt (by omega) (by omega)) ?_
    refine z_pos (nI_lt (by omega) (by omega)) ?_
    refine z_eq (zi_397 _ (by omega)) ?_
    rw [i2 (c0 + j) (by omega) (by omega)]
    unfold f_Mo_barIs
    rw [i1, jm_43, show (60 : Int32) = nI 60 from rfl]
    refine z_bind (P := fun N2 => N2.1 366 44 = nI (c1 + j + 1) ∧ (∀ k, k < 60 → k < c1 + j + 1 → N2.1 397 k = nI (z_rp B c0 c1 k)) ∧ z_PX N N2 ∧ ∀ i, i ≠ 44 → N2.1 366 i = N.1 366 i ∧ N2.1 398 = N.1 398) ?_ (fun N2 h2 => by rw [nI_1]; exact kk N2 h2)
    rw [if_pos (nI_lt (by omega) (by omega)), zs_397 _ (by omega)]
    simp only [Option.bind_some]
    rw [z_sIa _ _ _ _ (by decide), i1, nI_1]
    refine z_some ⟨z_sIs _ _ _ _, fun k k1 k2 => ?_, i3.b.s (Or.inl rfl), fun i hi => ⟨?_, ?_⟩⟩
    · rw [z_sIa _ _ _ _ (by decide)]
      by_cases e : k = c1 + j
      · subst e
        rw [z_sIs, ← z_rp_s h01 (show c1 ≤ c1 + j by omega), show c1 + j - (c1 - c0) = c0 + j by omega]
      · rw [z_sIk _ _ _ _ e]; exact i2 k k1 (by omega)
    · rw [z_sIk _ _ _ _ hi, z_sIa _ _ _ _ (by decide)]; exact (i4 i hi).1
    · rw [z_sIa _ _ _ _ (by decide), z_sIa _ _ _ _ (by decide)]; exact (i4 i hi).2
  · intro m N' hI
    obtain ⟨i1, i2, i3, i4⟩ := hI
    show z_ok (lp_Mo_closes_60 366 (nI t) (nI c0) (nI (c1 - c0)) (m + 1) (nI K) N') _
    rw [lp_Mo_closes_60, z_ls (by omega), pk_mul, i1, show (60 : Int32) = nI 60 from rfl]
    have fin : (∀ k, k < 60 → k < c0 + (c1 - c0) * t → N'.1 397 k = nI (z_rp B c0 c1 k)) := fun k k1 k2 => i2 k k1 (by omega)
    refine z_lt _ _ rfl rfl (by omega) (by omega) (fun q => ?_) (fun q => z_some ⟨fin, i3, i4⟩)
    exact z_neg (nI_nlt (by omega) (by omega)) (z_some ⟨fin, i3, i4⟩)
end
