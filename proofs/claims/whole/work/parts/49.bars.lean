/-! ===== pure: BARS, one group of letters, both ===== -/
def z_ac (x : Nat) : Nat := if x = 100 then 0 else if x = 117 then 1 else if x = 114 then 2 else if x = 116 then 3 else 4
theorem z_ac_c : ∀ x, x < 256 → f_Pr_actOf (nI x) = some (if z_ac x < 4 then nI (z_ac x) else -1) := by decide +kernel
theorem z_ac_m : ∀ x, x < 256 → f_Mo_barOf (nI x) = some (if z_ac x < 4 then nI (z_ac x) else -1) := by decide +kernel
abbrev z_bw (T : Nat → Nat) (n b : Nat) : Prop := z_so T n b = 1 ∧ z_en T n b - z_sk T n b ≤ 12 ∧ ∀ i, i < z_en T n b - z_sk T n b → z_ac (T (z_sk T n b + i)) < 4
abbrev z_gs (T : Nat → Nat) (n b : Nat) : Prop := z_sg T n b 40 ∨ z_bw T n b
/-- the BARS told so far: c of them, B -/
def z_BC (B : Nat → Nat) (c : Nat) (M : SM) : Prop := M.1 5 2 = nI (min 1000 c) ∧ ∀ k, k < 60 → k < c → M.1 6 k = nI (B k)
def z_BM (B : Nat → Nat) (c : Nat) (N : SM) : Prop := N.1 366 44 = nI c ∧ ∀ k, k < 60 → k < c → N.1 397 k = nI (B k)
def z_B3 (B : Nat → Nat) (c : Nat) : Prop := ∀ k, k < 60 → k < c → B k ≤ 3
def z_PE (M M' : SM) : Prop := z_Fr (fun i => i ≠ 3 ∧ i ≠ 4 ∧ i ≠ 5 ∧ i ≠ 6) M M'
theorem z_RE.pe {M M' : SM} (h : z_RE M M') : z_PE M M' := h.wk (fun i q => ⟨q.1, q.2.1⟩)
theorem z_PE.tr {M M' M'' : SM} (h : z_PE M M') (k : z_PE M' M'') : z_PE M M'' := z_Fr.tr h k
theorem z_PE.rf {M : SM} : z_PE M M := z_Fr.rf
def z_PX (N N' : SM) : Prop := z_Fr (fun i => i ≠ 366 ∧ i ≠ 397 ∧ i ≠ 398) N N' ∧ ∀ k, (k ≠ 2 ∧ k ≠ 4 ∧ k ≠ 5 ∧ k ≠ 6 ∧ k ≠ 9 ∧ k ≠ 27 ∧ k ≠ 44 ∧ k ≠ 46) → N'.1 366 k = N.1 366 k
theorem z_PX.rf {N : SM} : z_PX N N := ⟨z_Fr.rf, fun _ _ => rfl⟩
theorem z_PX.tr {M M' M'' : SM} (h : z_PX M M') (k : z_PX M' M'') : z_PX M M'' := ⟨h.1.tr k.1, fun i p => (k.2 i p).trans (h.2 i p)⟩
theorem z_LX.px {N N' : SM} (h : z_LX N N') : z_PX N N' := ⟨h.1.wk (fun i q => q.1), fun k q => h.2 k (by omega)⟩
theorem z_PX.s {N N' : SM} {k : Nat} {v : Int32} (h : z_PX N N') (hk : k = 44 ∨ k = 46) : z_PX N (sI N' 366 k v) := ⟨h.1.sI (by omega), fun j q => by rw [z_sIk _ _ _ _ (by omega)]; exact h.2 j q⟩
theorem z_PX.b {N N' : SM} {k : Nat} {v : Int32} (h : z_PX N N') : z_PX N (sI N' 397 k v) := ⟨h.1.sI (by omega), fun j q => by rw [z_sIa _ _ _ _ (by decide)]; exact h.2 j q⟩
theorem z_PX.o {N N' : SM} {k : Nat} {v : Int32} (h : z_PX N N') : z_PX N (sI N' 398 k v) := ⟨h.1.sI (by omega), fun j q => by rw [z_sIa _ _ _ _ (by decide)]; exact h.2 j q⟩
theorem z_BM.lx {B : Nat → Nat} {c : Nat} {N N' : SM} (h : z_BM B c N) (k : z_LX N N') : z_BM B c N' := ⟨(k.2 44 (by decide)).trans h.1, fun j j1 j2 => by rw [k.1.1 397 (by decide)]; exact h.2 j j1 j2⟩
theorem z_BC.re {B : Nat → Nat} {c : Nat} {M M' : SM} (h : z_BC B c M) (k : z_RE M M') : z_BC B c M' := ⟨by rw [k.1 5 (by decide)]; exact h.1, fun j j1 j2 => by rw [k.1 6 (by decide)]; exact h.2 j j1 j2⟩
/-- BARS of one word behind them -/
def z_bl1 (T : Nat → Nat) (k0 c : Nat) (B : Nat → Nat) (k : Nat) : Nat := if c ≤ k then z_ac (T (k0 + (k - c))) else B k
section
variable {T : Nat → Nat} {n b : Nat} {M : SM} {B : Nat → Nat} {c : Nat}
theorem c_gs (hw : z_wt n T) (h : z_tc n T M) (hb : b ≤ n) (hR : z_RD T n b M) : f_Pr_groupStands 5 M = some (if z_gs T n b then 1 else 0) := by
  have hn := hw.1
  have hen := z_en_s (T := T) hb
  have hso := z_so_4 (T := T) (n := n) (b := b)
  unfold f_Pr_groupStands
  rw [jp_5_0, show (40 : Int32) = nI 40 from rfl, c_isSign hw h hb hR (by decide)]
  simp only [Option.bind_some]
  rw [z_if01]
  by_cases c0 : z_sg T n b 40
  · rw [if_pos c0, if_pos (Or.inl c0)]
  · rw [if_neg c0]
    unfold f_Re_isSomeWord f_Re_length
    rw [hR.1]
    by_cases c1 : z_so T n b = 1
    · rw [if_pos (show nI (z_so T n b) = 1 by rw [c1]; rfl)]
      simp only [Option.bind_some]
      rw [if_neg z_10, hR.2.1, hR.2.2.1, z_sub hen.1, show (12 : Int32) = nI 12 from rfl]
      by_cases c2 : 12 < z_en T n b - z_sk T n b
      · rw [if_pos (nI_lt c2 (by omega)), if_neg (fun q => q.elim c0 (fun q => by have := q.2.1; omega))]
      · rw [if_neg (nI_nlt (by omega) (by decide))]
        have hlp : z_ok (lp_Pr_groupStands_40 5 M jfuel (nI 0)) (fun t => (t = .inl () ∧ ∀ i, i < z_en T n b - z_sk T n b → z_ac (T (z_sk T n b + i)) < 4) ∨ (t = .inr 0 ∧ ¬ ∀ i, i < z_en T n b - z_sk T n b → z_ac (T (z_sk T n b + i)) < 4)) := by
          refine z_loop0 (fun m c => lp_Pr_groupStands_40 5 M m c) (fun c => ∀ i, i < c → z_ac (T (z_sk T n b + i)) < 4) _ (z_en T n b - z_sk T n b) ?_ ?_ jfuel 0 (Nat.zero_le _) (by rw [z_jf]; omega) (fun i hi => by omega)
          · intro m j hj hI k
            show z_ok (lp_Pr_groupStands_40 5 M (m + 1) (nI j)) _
            rw [lp_Pr_groupStands_40]
            unfold f_Re_length
            rw [jp_5_0, hR.2.1, hR.2.2.1, z_sub hen.1, jp_3_2]
            refine z_eq rfl (z_pos (nI_lt hj (by omega)) ?_)
            refine z_eq (za_4 _ (by omega)) ?_
            have hT := hw.2 (z_sk T n b + j) (by omega)
            rw [hR.2.2.2 j (by omega), z_lt1 c1 (by omega), nI_1]
            refine z_eq (z_ac_c _ hT) ?_
            by_cases c3 : z_ac (T (z_sk T n b + j)) < 4
            · rw [if_pos c3]
              refine z_neg (nI_pos (by omega)) (k (fun i hi => ?_))
              by_cases e : i = j
              · rw [e]; exact c3
              · exact hI i (by omega)
            · rw [if_neg c3]
              exact z_pos (by decide) (z_some (Or.inr ⟨rfl, fun q => c3 (q j hj)⟩))
          · intro m hI
            show z_ok (lp_Pr_groupStands_40 5 M (m + 1) (nI (z_en T n b - z_sk T n b))) _
            rw [lp_Pr_groupStands_40]
            unfold f_Re_length
            rw [jp_5_0, hR.2.1, hR.2.2.1, z_sub hen.1]
            exact z_eq rfl (z_neg (nI_nlt (Nat.le_refl _) (by omega)) (z_some (Or.inl ⟨rfl, hI⟩)))
        obtain ⟨t, et, pt⟩ := hlp
        rw [nI_0] at et
        rw [et]
        rcases pt with ⟨e1, e2⟩ | ⟨e1, e2⟩
        · rw [e1, if_pos (Or.inr ⟨c1, by omega, e2⟩)]; rfl
        · rw [e1, if_neg (fun q => q.elim c0 (fun q => e2 q.2.2))]; rfl
    · rw [if_neg (fun (e : nI (z_so T n b) = 1) => c1 ((nI_eq (b := 1) (by omega) (by decide)).mp e))]
      simp only [Option.bind_some]
      rw [if_pos trivial, if_neg (fun q => q.elim c0 (fun q => c1 q.1))]
/-- a word of BARS, the class -/
theorem c_letters (hw : z_wt n T) (h : z_tc n T M) (hb : b ≤ n) (hR : z_RD T n b M) (hB : z_BC B c M) (hg : z_bw T n b) :
    z_ok (f_Pr_addLetters 5 M) (fun M' => z_BC (z_bl1 T (z_sk T n b) c B) (c + (z_en T n b - z_sk T n b)) M' ∧ z_Fr (fun i => i ≠ 5 ∧ i ≠ 6) M M' ∧ ∀ k, k ≠ 2 → M'.1 5 k = M.1 5 k) := by
  have hn := hw.1
  have hen := z_en_s (T := T) hb
  obtain ⟨g1, g2, g3⟩ := hg
  unfold f_Pr_addLetters
  generalize hl : z_en T n b - z_sk T n b = l at g2 g3
  have ln : ∀ X : SM, X.1 3 = M.1 3 → f_Re_length (jpf 5 0) X = some (nI l) := fun X hX => by
    unfold f_Re_length
    rw [jp_5_0, hX, hR.2.1, hR.2.2.1, z_sub hen.1, hl]
  refine z_bind (P := fun M' => z_Fr (fun i => i ≠ 6) M M' ∧ ∀ k, k < 60 → k < c + l → M'.1 6 k = nI (z_bl1 T (z_sk T n b) c B k)) ?_ (fun M' hM' => ?_)
  · show z_ok (lp_Pr_addLetters_2 5 jfuel (nI 0) M) _
    refine z_loop (fun m j s => lp_Pr_addLetters_2 5 m j s) (fun j M' => z_Fr (fun i => i ≠ 6) M M' ∧ ∀ k, k < 60 → k < c + j → M'.1 6 k = nI (z_bl1 T (z_sk T n b) c B k)) _ l ?_ ?_ jfuel 0 M (Nat.zero_le _) (by rw [z_jf]; omega) ⟨z_Fr.rf, fun k k1 k2 => by unfold z_bl1; rw [if_neg (by omega)]; exact hB.2 k k1 (by omega)⟩
    · intro m j M' hj hI kk
      obtain ⟨i1, i2⟩ := hI
      show z_ok (lp_Pr_addLetters_2 5 (m + 1) (nI j) M') _
      rw [lp_Pr_addLetters_2]
      refine z_eq (ln M' (i1.1 3 (by decide))) ?_
      refine z_pos (nI_lt hj (by omega)) ?_
      rw [jp_5_0, jp_3_2, jp_5_1]
      refine z_eq (za_4 _ (by omega)) ?_
      have hT := hw.2 (z_sk T n b + j) (by omega)
      rw [i1.1 4 (by decide), hR.2.2.2 j (by omega), z_lt1 g1 (by omega)]
      refine z_eq (z_ac_c _ hT) ?_
      rw [if_pos (g3 j hj), i1.1 5 (by decide), hB.1, nI_add]
      by_cases c6 : min 1000 c + j < 60
      · refine z_eq (zp_6 _ c6) ?_
        rw [nI_1]
        refine kk _ ⟨i1.sI (by omega), fun k k1 k2 => ?_⟩
        by_cases e : k = min 1000 c + j
        · subst e
          rw [z_sIs]
          unfold z_bl1
          rw [if_pos (by omega), show min 1000 c + j - c = j by omega]
        · rw [z_sIk _ _ _ _ e]; exact i2 k k1 (by omega)
      · refine z_eq (z_putO jl_6 (by omega) (by omega)) ?_
        rw [nI_1]
        exact kk _ ⟨i1, fun k k1 k2 => i2 k k1 (by omega)⟩
    · intro m M' hI
      show z_ok (lp_Pr_addLetters_2 5 (m + 1) (nI l) M') _
      rw [lp_Pr_addLetters_2]
      refine z_eq (ln M' (hI.1.1 3 (by decide))) ?_
      exact z_neg (nI_nlt (Nat.le_refl _) (by omega)) (z_some hI)
  · obtain ⟨i1, i2⟩ := hM'
    refine z_eq (ln M' (i1.1 3 (by decide))) ?_
    rw [i1.1 5 (by decide), hB.1, nI_add, show (1000 : Int32) = nI 1000 from rfl, z_jmin (by decide) (by omega)]
    refine z_some ⟨⟨?_, fun k k1 k2 => ?_⟩, ⟨fun i hi => ?_, i1.2⟩, fun k hk => ?_⟩
    · rw [z_sIs]; congr 1; omega
    · rw [z_sIa _ _ _ _ (by decide)]; exact i2 k k1 k2
    · rw [z_sIa _ _ _ _ hi.1]; exact i1.1 i hi.2
    · rw [z_sIk _ _ _ _ hk, i1.1 5 (by decide)]
theorem z_bl1_3 (hB : z_B3 B c) (hg : z_bw T n b) : z_B3 (z_bl1 T (z_sk T n b) c B) (c + (z_en T n b - z_sk T n b)) := fun k k1 k2 => by
  unfold z_bl1
  split
  · have := hg.2.2 (k - c) (by omega); omega
  · exact hB k k1 (by omega)
end
section
variable {T : Nat → Nat} {n b a : Nat} {N : SM} {B : Nat → Nat} {c : Nat}
/-- the same of the reference; what is no such word is FAULT 1 -/
theorem m_letters2 (hw : z_wt n T) (hm : z_mb T n b) (h : z_RF T n b a N) (hB : z_BM B c N) (hc : c < 2 ^ 30) :
    z_ok (f_Mo_barsTold 366 N) (fun N' => z_PX N N' ∧ N'.1 366 46 = N.1 366 46 ∧ N'.1 398 = N.1 398 ∧ ((z_bw T n b ∧ z_RF T n (z_en T n b) (z_en T n b) N' ∧ z_BM (z_bl1 T (z_sk T n b) c B) (c + (z_en T n b - z_sk T n b)) N') ∨ (¬ z_bw T n b ∧ z_MF 1 (z_sk T n b) N'))) := by
  have hn := hw.1
  have hb := hm.1
  have hs := z_sk_s (T := T) hb
  have hen := z_en_s (T := T) hb
  unfold f_Mo_barsTold
  refine z_pos h.2.2.2.2.2.1 ?_
  refine z_bind (m_look hw hb h) (fun q hq => ?_)
  obtain ⟨q1, q2, q3⟩ := hq
  have no : ¬ z_bw T n b → z_ok ((f_Mo_fail 366 1 (q.2.1 366 2) q.2).bind fun q5 => some q5) (fun N' => z_PX N N' ∧ N'.1 366 46 = N.1 366 46 ∧ N'.1 398 = N.1 398 ∧ ((z_bw T n b ∧ z_RF T n (z_en T n b) (z_en T n b) N' ∧ z_BM (z_bl1 T (z_sk T n b) c B) (c + (z_en T n b - z_sk T n b)) N') ∨ (¬ z_bw T n b ∧ z_MF 1 (z_sk T n b) N'))) := fun e => by
    rw [q2.1]
    refine z_eq (m_fail (f := 1) q2.2.2.2.2.2.1) (z_some ⟨q3.f.px, ?_, ?_, Or.inr ⟨e, z_MF.mk _ _⟩⟩)
    · exact q3.f.2 46 (by decide)
    · exact q3.f.1.1 398 (by decide)
  rw [q1]
  by_cases c0 : z_sk T n b < n
  · have hT := hw.2 _ c0
    rw [if_pos c0]
    refine z_eq (m_isLe (by omega)) ?_
    rw [z_if01]
    by_cases c1 : z_le (T (z_sk T n b))
    · rw [if_pos c1]
      have hso := z_so_le hm c0 c1
      refine z_ite (fun e => no (fun q => (hso.mp q.1) ((z_ed_q hw hb q2).mp e))) (fun e => ?_)
      have hs1 : z_so T n b = 1 := hso.mpr (fun q => e ((z_ed_q hw hb q2).mpr q))
      have h1 := z_so_1 hs1
      have hwd := z_wd_s (T := T) (n := n) hs.2.1
      have hle : ∀ j, z_sk T n b ≤ j → j < z_en T n b → z_le (T j) := fun j j1 j2 => hwd.2.2.1 j j1 (by rw [← h1.2.2]; exact j2)
      rw [q2.1]
      -- letter by letter
      have loop : ∀ j k N1, z_sk T n b ≤ k → k + j = z_en T n b → k - z_sk T n b ≤ 12 → (∀ i, i < k - z_sk T n b → z_ac (T (z_sk T n b + i)) < 4) → N1.1 366 2 = nI k → N1.1 366 3 = nI n → N1.1 366 5 = 0 → (∀ k, k < n → N1.1 367 k = nI (T k)) → z_BM (z_bl1 T (z_sk T n b) c B) (c + (k - z_sk T n b)) N1 → z_PX N N1 → N1.1 366 46 = N.1 366 46 → N1.1 398 = N.1 398 → N1.1 366 4 = q.2.1 366 4 → N1.1 366 6 = q.2.1 366 6 →
          ∃ t, (∀ m, j < m → lp_Mo_barsTold_44 366 (nI (z_sk T n b)) m N1 = some t) ∧ ((z_bw T n b ∧ ∃ N2, t = .inl N2 ∧ N2.1 366 2 = nI (z_en T n b) ∧ N2.1 366 3 = nI n ∧ N2.1 366 5 = 0 ∧ (∀ k, k < n → N2.1 367 k = nI (T k)) ∧ z_BM (z_bl1 T (z_sk T n b) c B) (c + (z_en T n b - z_sk T n b)) N2 ∧ z_PX N N2 ∧ N2.1 366 46 = N.1 366 46 ∧ N2.1 398 = N.1 398 ∧ N2.1 366 4 = q.2.1 366 4 ∧ N2.1 366 6 = q.2.1 366 6) ∨ (¬ z_bw T n b ∧ ∃ N2, t = .inr N2 ∧ z_PX N N2 ∧ N2.1 366 46 = N.1 366 46 ∧ N2.1 398 = N.1 398 ∧ z_MF 1 (z_sk T n b) N2)) := by
        intro j
        induction j with
        | zero =>
          intro k N1 g1 g2 g3 g4 e2 e3 e5 e8 eB eX e46 e398 e4 e6
          have g2 : k = z_en T n b := g2
          subst g2
          refine ⟨.inl N1, fun m hm => ?_, Or.inl ⟨⟨hs1, g3, g4⟩, N1, rfl, e2, e3, e5, e8, eB, eX, e46, e398, e4, e6⟩⟩
          obtain ⟨m, rfl⟩ : ∃ m', m = m' + 1 := ⟨m - 1, by omega⟩
          rw [lp_Mo_barsTold_44, e2, e3]
          by_cases cc : z_en T n b < n
          · have hTc := hw.2 _ cc
            rw [if_pos (nI_lt cc (by omega)), jm_0, zi_367 _ (by omega), e8 _ cc]
            simp only [Option.bind_some]
            have := hwd.2.2.2 (by rw [← h1.2.2]; exact cc)
            rw [← h1.2.2] at this
            rw [m_isLe (by omega), if_neg this]; rfl
          · rw [if_neg (nI_nlt (by omega) (by omega))]
        | succ j ih =>
          intro k N1 g1 g2 g3 g4 e2 e3 e5 e8 eB eX e46 e398 e4 e6
          have hl := hle k g1 (by omega)
          have hTc := hw.2 k (by omega)
          have st : ∀ m, lp_Mo_barsTold_44 366 (nI (z_sk T n b)) (m + 1) N1 = (if nI (k - z_sk T n b) = 12 then ((f_Mo_fail 366 1 (nI (z_sk T n b)) N1).bind fun q13 => some (.inr q13)) else ((f_Mo_barOf (nI (T k))).bind fun q15 => if q15 = (-1) then ((f_Mo_fail 366 1 (nI (z_sk T n b)) N1).bind fun q17 => some (.inr q17)) else ((f_Mo_barOf (nI (T k))).bind fun q19 => (f_Mo_barIs 366 q19 N1).bind fun q20 => lp_Mo_barsTold_44 366 (nI (z_sk T n b)) m (sI q20 366 2 ((q20.1 366 2) + 1))))) := fun m => by
            rw [lp_Mo_barsTold_44, e2, e3, if_pos (nI_lt (by omega) (by omega)), jm_0, zi_367 _ (by omega), e8 _ (by omega)]
            simp only [Option.bind_some]
            rw [m_isLe (by omega), if_pos hl]
            simp only [Option.bind_some]
            rw [if_neg z_10, z_sub g1]
          have hf := m_fail (N := N1) (f := 1) (p := z_sk T n b) e5
          have bad : ¬ z_bw T n b → (∀ m, lp_Mo_barsTold_44 366 (nI (z_sk T n b)) (m + 1) N1 = some (.inr (sI (sI N1 366 5 (nI 1)) 366 6 (nI (z_sk T n b))))) → ∃ t, (∀ m, j + 1 < m → lp_Mo_barsTold_44 366 (nI (z_sk T n b)) m N1 = some t) ∧ ((z_bw T n b ∧ ∃ N2, t = .inl N2 ∧ N2.1 366 2 = nI (z_en T n b) ∧ N2.1 366 3 = nI n ∧ N2.1 366 5 = 0 ∧ (∀ k, k < n → N2.1 367 k = nI (T k)) ∧ z_BM (z_bl1 T (z_sk T n b) c B) (c + (z_en T n b - z_sk T n b)) N2 ∧ z_PX N N2 ∧ N2.1 366 46 = N.1 366 46 ∧ N2.1 398 = N.1 398 ∧ N2.1 366 4 = q.2.1 366 4 ∧ N2.1 366 6 = q.2.1 366 6) ∨ (¬ z_bw T n b ∧ ∃ N2, t = .inr N2 ∧ z_PX N N2 ∧ N2.1 366 46 = N.1 366 46 ∧ N2.1 398 = N.1 398 ∧ z_MF 1 (z_sk T n b) N2)) := fun x y => by
            have lx : z_LX N1 (sI (sI N1 366 5 (nI 1)) 366 6 (nI (z_sk T n b))) := z_LX.rf.f
            refine ⟨_, fun m hm => ?_, Or.inr ⟨x, _, rfl, eX.tr lx.px, (lx.2 46 (by decide)).trans e46, (lx.1.1 398 (by decide)).trans e398, z_MF.mk _ _⟩⟩
            obtain ⟨m, rfl⟩ : ∃ m', m = m' + 1 := ⟨m - 1, by omega⟩
            exact y m
          by_cases c12 : k - z_sk T n b = 12
          · refine bad (fun x => by have := x.2.1; omega) (fun m => ?_)
            rw [st, if_pos (show nI (k - z_sk T n b) = 12 by rw [c12]; rfl), show (1 : Int32) = nI 1 from rfl, hf]; rfl
          · have e12 : ¬ nI (k - z_sk T n b) = 12 := fun (e : nI (k - z_sk T n b) = 12) => c12 ((nI_eq (b := 12) (by omega) (by decide)).mp e)
            by_cases ca : z_ac (T k) < 4
            · -- one BAR
              have eBar : ∃ N2, f_Mo_barIs 366 (nI (z_ac (T k))) N1 = some N2 ∧ z_BM (z_bl1 T (z_sk T n b) c B) (c + (k + 1 - z_sk T n b)) N2 ∧ z_PX N1 N2 ∧ N2.1 366 46 = N1.1 366 46 ∧ N2.1 398 = N1.1 398 ∧ ∀ i, i ≠ 44 → N2.1 366 i = N1.1 366 i := by
                unfold f_Mo_barIs
                rw [eB.1, jm_43, show (60 : Int32) = nI 60 from rfl]
                by_cases c6 : c + (k - z_sk T n b) < 60
                · rw [if_pos (nI_lt c6 (by decide)), zs_397 _ c6]
                  simp only [Option.bind_some]
                  rw [z_sIa _ _ _ _ (by decide), eB.1, nI_1]
                  refine ⟨_, rfl, ⟨?_, fun i i1 i2 => ?_⟩, z_PX.rf.b.s (Or.inl rfl), ?_, ?_, fun i hi => ?_⟩
                  · rw [z_sIs]; congr 1; omega
                  · rw [z_sIa _ _ _ _ (by decide)]
                    by_cases e : i = c + (k - z_sk T n b)
                    · subst e
                      rw [z_sIs]
                      unfold z_bl1
                      rw [if_pos (by omega), show z_sk T n b + (c + (k - z_sk T n b) - c) = k by omega]
                    · rw [z_sIk _ _ _ _ e]; exact eB.2 i i1 (by omega)
                  · rw [z_sIk _ _ _ _ (by decide), z_sIa _ _ _ _ (by decide)]
                  · rw [z_sIa _ _ _ _ (by decide), z_sIa _ _ _ _ (by decide)]
                  · rw [z_sIk _ _ _ _ hi, z_sIa _ _ _ _ (by decide)]
                · rw [if_neg (nI_nlt (by omega) (by omega))]
                  simp only [Option.bind_some]
                  rw [eB.1, nI_1]
                  refine ⟨_, rfl, ⟨?_, fun i i1 i2 => ?_⟩, z_PX.rf.s (Or.inl rfl), z_sIk _ _ _ _ (by decide), z_sIa _ _ _ _ (by decide), fun i hi => z_sIk _ _ _ _ hi⟩
                  · rw [z_sIs]; congr 1; omega
                  · rw [z_sIa _ _ _ _ (by decide)]; exact eB.2 i i1 (by omega)
              obtain ⟨N2, b1, b2, b3, b4, b5, b6⟩ := eBar
              have b7 : N2.1 366 2 = nI k := (b6 2 (by decide)).trans e2
              have lx : z_LX N2 (sI N2 366 2 (nI (k + 1))) := z_LX.rf.s (Or.inl rfl)
              obtain ⟨t, t1, t2⟩ := ih (k + 1) (sI N2 366 2 (nI (k + 1))) (by omega) (by omega) (by omega) (fun i hi => by
                  by_cases e : i = k - z_sk T n b
                  · rw [e, show z_sk T n b + (k - z_sk T n b) = k by omega]; exact ca
                  · exact g4 i (by omega)) (z_sIs _ _ _ _) ((z_sIk _ _ _ _ (by decide)).trans ((b6 3 (by decide)).trans e3)) ((z_sIk _ _ _ _ (by decide)).trans ((b6 5 (by decide)).trans e5)) (fun i hi => by rw [z_sIa _ _ _ _ (by decide), b3.1.1 367 (by decide)]; exact e8 i hi) (b2.lx lx) ((eX.tr b3).tr lx.px) ((z_sIk _ _ _ _ (by decide)).trans (b4.trans e46)) ((z_sIa _ _ _ _ (by decide)).trans (b5.trans e398)) ((z_sIk _ _ _ _ (by decide)).trans ((b6 4 (by decide)).trans e4)) ((z_sIk _ _ _ _ (by decide)).trans ((b6 6 (by decide)).trans e6))
              refine ⟨t, fun m hm => ?_, t2⟩
              obtain ⟨m, rfl⟩ : ∃ m', m = m' + 1 := ⟨m - 1, by omega⟩
              rw [st, if_neg e12, z_ac_m _ hTc, if_pos ca]
              simp only [Option.bind_some]
              rw [if_neg (z_neg1 (by omega)), b1]
              simp only [Option.bind_some]
              rw [b7, nI_1]
              exact t1 m (by omega)
            · refine bad (fun x => ca (by have := x.2.2 (k - z_sk T n b) (by omega); rw [show z_sk T n b + (k - z_sk T n b) = k by omega] at this; exact this)) (fun m => ?_)
              rw [st, if_neg e12, z_ac_m _ hTc, if_neg ca]
              simp only [Option.bind_some]
              rw [if_pos trivial, show (1 : Int32) = nI 1 from rfl, hf]; rfl
      have hBq := hB.lx q3
      obtain ⟨t, t1, t2⟩ := loop (z_en T n b - z_sk T n b) (z_sk T n b) q.2 (Nat.le_refl _) (by omega) (by omega) (fun i hi => by omega) q2.1 q2.2.2.2.1 q2.2.2.2.2.2.1 q2.2.2.2.2.2.2.2 ⟨by rw [Nat.sub_self]; exact hBq.1, fun i i1 i2 => by unfold z_bl1; rw [if_neg (by omega)]; exact hBq.2 i i1 (by omega)⟩ q3.px (q3.2 46 (by decide)) (q3.1.1 398 (by decide)) rfl rfl
      have t1' := t1 jfuel (by rw [z_jf]; omega)
      rw [t1']
      rcases t2 with ⟨cg, N2, rfl, u2, u3, u5, u8, uB, uX, u46, u398, u4, u6⟩ | ⟨cg, N2, rfl, uX, u46, u398, uM⟩
      · show z_ok (some (sI N2 366 4 (N2.1 366 2))) _
        rw [u2]
        have lx : z_LX N2 (sI N2 366 4 (nI (z_en T n b))) := z_LX.rf.s (Or.inr (Or.inl rfl))
        refine z_some ⟨uX.tr lx.px, (lx.2 46 (by decide)).trans u46, (lx.1.1 398 (by decide)).trans u398, Or.inl ⟨cg, ?_, uB.lx lx⟩⟩
        have hlt := hen.2.2.1 c0
        refine ⟨(z_sIk _ _ _ _ (by decide)).trans u2, Nat.le_refl _, (z_sk_s hen.2.1).1, (z_sIk _ _ _ _ (by decide)).trans u3, Or.inl ⟨by omega, Or.inl (hle _ (by omega) (by omega)), z_sIs _ _ _ _⟩, (z_sIk _ _ _ _ (by decide)).trans u5, (z_sIk _ _ _ _ (by decide)).trans (u6.trans q2.2.2.2.2.2.2.1), fun i hi => by rw [z_sIa _ _ _ _ (by decide)]; exact u8 i hi⟩
      · exact ⟨N2, rfl, uX, u46, u398, Or.inr ⟨cg, uM⟩⟩
    · rw [if_neg c1]
      exact no (fun q => c1 (z_so_1 q.1).2.1)
  · rw [if_neg c0]
    exact z_eq (r := (0 : Int32)) rfl (z_pos rfl (no (fun q => c0 (z_so_1 q.1).1)))
end
