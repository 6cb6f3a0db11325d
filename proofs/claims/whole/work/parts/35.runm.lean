/-! ===== pure: the reference's run ===== -/
theorem z_any (x : Int32) : x = nI x.toBitVec.toNat := by
  unfold nI
  apply Int32.toBitVec_inj.mp
  simp [Int32.toBitVec_ofNat]
def z_LK (M M' : SM) : Prop := z_Fr (fun i => i ≠ 366 ∧ (i < 399 ∨ 403 < i)) M M' ∧ (∀ k, k < 54 ∨ 58 < k → M'.1 366 k = M.1 366 k)
theorem z_LK.rf {M : SM} : z_LK M M := ⟨z_Fr.rf, fun _ _ => rfl⟩
theorem z_LK.tr {M M' M'' : SM} (h : z_LK M M') (k : z_LK M' M'') : z_LK M M'' := ⟨h.1.tr k.1, fun i p => (k.2 i p).trans (h.2 i p)⟩
theorem z_LK.r {M M' : SM} {a k : Nat} {v : Int32} (h : z_LK M M') (h1 : 399 ≤ a) (h2 : a ≤ 403) : z_LK M (sI M' a k v) := ⟨h.1.sI (by omega), fun i p => by rw [z_sIa _ _ _ _ (by omega)]; exact h.2 i p⟩
theorem z_QK.lk {M M' : SM} (h : z_QK M M') : z_LK M M' := ⟨h.1.wk (fun i q => by omega), h.2⟩
theorem z_OR.lk {A : ZA} {M M' : SM} (h : z_OR A M) (k : z_LK M M') : z_OR A M' := h.fr (k.2 31 (by decide)) (fun i h1 h2 h3 => k.1.1 i (by omega))
theorem z_TR.lk {n : Nat} {P : ZP} {M M' : SM} (h : z_TR n P M) (k : z_LK M M') : z_TR n P M' := h.fr (k.1.1 391 (by decide))
def z_RR (A : ZA) (f : Nat → ZS) (n : Nat) (M : SM) : Prop := ∀ b, b ≤ n → (∀ c, c < A 0 0 → M.1 401 (12 * b + c) = nI ((f b).1 c)) ∧ (∀ i, i < A 0 5 → M.1 402 (4 * b + i) = nI ((f b).2.1 i)) ∧ (∀ k, k < 4 → M.1 403 (6 * b + k) = nI ((f b).2.2 k)) ∧ M.1 403 (6 * b + 4) = nI (z_sum (A 0 0) (f b).1) ∧ M.1 403 (6 * b + 5) = nI ((f b).2.2 4)
theorem z_RR.fr {A : ZA} {f : Nat → ZS} {n : Nat} {M M' : SM} (h : z_RR A f n M) (k : ∀ i, 401 ≤ i → i < 404 → M'.1 i = M.1 i) : z_RR A f n M' := fun b hb => by
  rw [k 401 (by omega) (by omega), k 402 (by omega) (by omega), k 403 (by omega) (by omega)]
  exact h b hb
section
variable {A : ZA} {M : SM} {w bt pf : Nat → Nat} {al : Nat → Nat → Nat} {b n d : Nat} {P : ZP}
theorem m_bars (hn : n ≤ 8) (hT : z_TR n P M) (hd : d < n) : f_Mo_barsOf 366 (nI d) M = some (nI (P.1 d)) := by
  unfold f_Mo_barsOf
  rw [jm_36, zl_488, zl_61, pk_mul, nI_add, zi_391 _ (by omega), (hT d hd).1]; rfl
theorem m_plainly (hn : n ≤ 8) (hP : z_WP n P) (hT : z_TR n P M) (hd : d < n) (h1 : 1 ≤ b) (hb : b < 2 ^ 30) : f_Mo_plainly 366 (nI d) (nI b) M = some (nI (z_pa P d b)) := by
  have h2 := (hP d hd).1
  unfold f_Mo_plainly z_pa
  rw [m_bars hn hT hd]
  show (if nI (P.1 d) < nI b then some 2 else _) = _
  by_cases r : P.1 d < b
  · rw [if_pos (nI_lt r (by omega)), if_neg (by omega)]; rfl
  · rw [if_neg (nI_nlt (by omega) (by omega)), if_pos ⟨h1, by omega⟩, jm_36, zl_488, zl_61, pk_mul, nI_add, nI_add, zi_391 _ (by omega), (hT d hd).2 b h1 (by omega)]; rfl
theorem m_does1 {s h l : Nat} (hn : n ≤ 8) (hP : z_WP n P) (hT : z_TR n P M) (hs : s < 256) (h47 : M.1 366 47 = nI s) (h48 : (M.1 366 48 = nI h ∧ M.1 366 49 = nI l) ∨ (M.1 366 48 = -1 ∧ 8 ≤ h)) (hh : h < 100) (hl : l < 1000) (h50 : M.1 366 50 = -1) (hd : d < n) (h1 : 1 ≤ b) (hb : b < 1000) : f_Mo_does 366 (nI d) (nI b) M = some (nI (z_su P s h l 0 d b)) := by
  unfold f_Mo_does z_su
  rw [h47, h50]
  by_cases q : s.testBit d = true
  · rw [if_pos ((z_bit s hs d (by omega)).mpr q), if_pos q]; rfl
  · rw [if_neg (fun r => q ((z_bit s hs d (by omega)).mp r)), if_neg q, if_pos rfl]
    show (Option.bind (if nI d = M.1 366 48 then _ else _) _) = _
    rcases h48 with ⟨h48, h49⟩ | ⟨h48, h8⟩
    · rw [h48, h49]
      by_cases r : d = h
      · rw [if_pos (by rw [r])]
        by_cases t : l ≤ b
        · rw [if_neg (nI_nlt t (by omega)), if_pos ⟨r, t⟩, nI_1]
          show (f_Mo_plainly _ _ _ _).bind _ = _
          rw [m_plainly hn hP hT hd (by omega) (by omega)]; rfl
        · rw [if_pos (nI_lt (by omega) (by omega)), if_neg (fun v => t v.2)]
          show (f_Mo_plainly _ _ _ _).bind _ = _
          rw [m_plainly hn hP hT hd (by omega) (by omega)]; rfl
      · rw [if_neg (fun v => r ((nI_eq (by omega) (by omega)).mp v)), if_neg (fun v => r v.1)]
        show (f_Mo_plainly _ _ _ _).bind _ = _
        rw [m_plainly hn hP hT hd (by omega) (by omega)]; rfl
    · rw [h48, if_neg (z_neg1 (by omega)), if_neg (fun v => by omega)]
      show (f_Mo_plainly _ _ _ _).bind _ = _
      rw [m_plainly hn hP hT hd (by omega) (by omega)]; rfl
theorem m_does2 {e m : Nat} (hn : n ≤ 8) (hP : z_WP n P) (hT : z_TR n P M) (h47 : M.1 366 47 = nI 0) (h48 : M.1 366 48 = -1) (h50 : M.1 366 50 = nI e) (h51 : M.1 366 51 = nI m) (he : e < 1000) (hm : m < 1000) (hd : d < n) (h1 : 1 ≤ b) (hb : b ≤ e + m) : f_Mo_does 366 (nI d) (nI b) M = some (nI (if e < b then z_pa P d (b - e) else z_pa P d b)) := by
  unfold f_Mo_does
  rw [h47, h48, h50, h51]
  rw [if_neg (fun r => by have := (z_bit 0 (by decide) d (by omega)).mp r; rw [Nat.zero_testBit] at this; cases this), if_neg (z_neg1 (by omega))]
  have e1 : ¬ nI d = -1 := z_neg1 (by omega)
  by_cases q : e < b
  · rw [if_pos (nI_lt q (by omega)), if_pos q, nI_add, if_neg (nI_nlt (by omega) (by omega)), z_sub (by omega)]
    show (Option.bind (if nI d = -1 then _ else some (nI (b - e))) _) = _
    rw [if_neg e1]
    show (f_Mo_plainly _ _ _ _).bind _ = _
    rw [m_plainly hn hP hT hd (by omega) (by omega)]; rfl
  · rw [if_neg (nI_nlt (by omega) (by omega)), if_neg q]
    show (Option.bind (if nI d = -1 then _ else some (nI b)) _) = _
    rw [if_neg e1]
    show (f_Mo_plainly _ _ _ _).bind _ = _
    rw [m_plainly hn hP hT hd (by omega) (by omega)]; rfl
theorem m_begins (hW : z_W A) (hO : z_OR A M) : z_ok (f_Mo_begins 366 M) (fun M' => (∃ pf, z_Q3 A (A 2) (A 7) pf M') ∧ z_Fr (fun i => i ≠ 399 ∧ i ≠ 400) M M') := by
  obtain ⟨hc0, w2, w3, w4, w5, w6, w7, w8, w9, w10, w11, w12⟩ := id hW
  unfold f_Mo_begins
  refine z_bind (P := fun s => z_Fr (fun i => i ≠ 399) M s ∧ (∀ c, c < 12 → s.1 399 c = M.1 388 (12 + c))) ?_ (fun M1 h1 => ?_)
  · refine z_loop (fun n c s => lp_Mo_begins_2 366 n c s) (fun c s => z_Fr (fun i => i ≠ 399) M s ∧ (∀ j, j < c → s.1 399 j = M.1 388 (12 + j))) _ 12 ?_ ?_ jfuel 0 M (by decide) (by decide) ⟨z_Fr.rf, fun j h => by omega⟩
    · intro n c M' hc hI k
      show z_ok (lp_Mo_begins_2 366 (n + 1) (nI c) M') _
      rw [lp_Mo_begins_2, jm_33, jm_52, zl_12, nI_add, nI_1]
      refine z_pos (nI_lt hc (by decide)) ?_
      refine z_eq (zi_388 _ (by omega)) ?_
      refine z_eq (zs_399 _ (by omega)) ?_
      refine k _ ⟨hI.1.sI (by omega), fun j hj => ?_⟩
      by_cases e : j = c
      · subst e; rw [z_sIs, hI.1.1 388 (by decide)]
      · rw [z_sIk _ _ _ _ e]; exact hI.2 j (by omega)
    · intro n M' hI
      show z_ok (lp_Mo_begins_2 366 (n + 1) (nI 12) M') _
      rw [lp_Mo_begins_2]
      exact z_neg (by decide) (z_some hI)
  · refine z_bind (P := fun s => z_Fr (fun i => i ≠ 400) M1 s ∧ (∀ c, c < 4 → s.1 400 c = M1.1 393 (8 + 2 * c))) ?_ (fun M2 h2 => z_some ⟨⟨fun k => (M2.1 366 (54 + k)).toBitVec.toNat, fun c hc => ?_, fun i hi => ?_, fun k _ => z_any _⟩, (h1.1.wk (fun i q => q.1)).tr (h2.1.wk (fun i q => q.2))⟩)
    · refine z_loop (fun n c s => lp_Mo_begins_31 366 n c s) (fun c s => z_Fr (fun i => i ≠ 400) M1 s ∧ (∀ j, j < c → s.1 400 j = M1.1 393 (8 + 2 * j))) _ 4 ?_ ?_ jfuel 0 M1 (by decide) (by decide) ⟨z_Fr.rf, fun j h => by omega⟩
      · intro n c M' hc hI k
        show z_ok (lp_Mo_begins_31 366 (n + 1) (nI c) M') _
        rw [lp_Mo_begins_31, jm_38, jm_53, zl_8, zl_2, pk_mul, nI_add, nI_1, zl_4]
        refine z_pos (nI_lt hc (by decide)) ?_
        refine z_eq (zi_393 _ (by omega)) ?_
        refine z_eq (zs_400 _ (by omega)) ?_
        refine k _ ⟨hI.1.sI (by omega), fun j hj => ?_⟩
        by_cases e : j = c
        · subst e; rw [z_sIs, hI.1.1 393 (by decide)]
        · rw [z_sIk _ _ _ _ e]; exact hI.2 j (by omega)
      · intro n M' hI
        show z_ok (lp_Mo_begins_31 366 (n + 1) (nI 4) M') _
        rw [lp_Mo_begins_31]
        exact z_neg (by decide) (z_some hI)
    · rw [h2.1.1 399 (by decide), h1.2 c (by omega)]; exact (hO.2.2.2.2.2.2.2.1 c hc).2.1
    · rw [h2.2 i (by omega), h1.1.1 393 (by decide)]; exact (hO.2.2.2.2.2.2.2.2.2.2.1 i hi).1
theorem m_waterAll (hW : z_W A) (h0 : M.1 366 31 = nI (A 0 0)) (hw : ∀ c, c < A 0 0 → M.1 399 c = nI (w c)) : f_Mo_waterAll 366 M = some (nI (z_sum (A 0 0) w)) := by
  have hc0 := hW.1
  unfold f_Mo_waterAll
  have : z_ok ((fun n c (s : Int32) => lp_Mo_waterAll_4 366 M n s c) jfuel (nI 0) (nI 0)) (fun r => r = nI (z_sum (A 0 0) w)) := by
    refine z_loop (σ := Int32) (τ := Int32) (fun n c s => lp_Mo_waterAll_4 366 M n s c) (fun c s => s = nI (z_sum c w)) _ (A 0 0) ?_ ?_ jfuel 0 (nI 0) (Nat.zero_le _) (by rw [z_jf]; omega) rfl
    · intro n c s hc hI k
      show z_ok (lp_Mo_waterAll_4 366 M (n + 1) s (nI c)) _
      rw [lp_Mo_waterAll_4, h0, jm_52]
      refine z_pos (nI_lt hc (by omega)) ?_
      refine z_eq (zi_399 _ (by omega)) ?_
      rw [hw c hc, hI, nI_add, nI_1]
      exact k _ rfl
    · intro n s hI
      show z_ok (lp_Mo_waterAll_4 366 M (n + 1) s (nI (A 0 0))) _
      rw [lp_Mo_waterAll_4, h0]
      exact z_neg (nI_nlt (Nat.le_refl _) (by omega)) (z_some hI)
  obtain ⟨r, e, h⟩ := this
  have e : lp_Mo_waterAll_4 366 M jfuel (nI 0) (nI 0) = some r := e
  show (lp_Mo_waterAll_4 366 M jfuel (nI 0) (nI 0)).bind _ = _
  rw [e, h]; rfl
theorem m_notes (hW : z_W A) (h0 : M.1 366 31 = nI (A 0 0)) (hP : z_Q3 A w bt pf M) (hb : b ≤ 60) :
    z_ok (f_Mo_notes 366 (nI b) M) (fun M' => z_Fr (fun i => i ≠ 401 ∧ i ≠ 402 ∧ i ≠ 403) M M' ∧ (∀ c, c < A 0 0 → M'.1 401 (12 * b + c) = nI (w c)) ∧ (∀ j, j < 12 * b → M'.1 401 j = M.1 401 j) ∧ (∀ i, i < A 0 5 → M'.1 402 (4 * b + i) = nI (bt i)) ∧ (∀ j, j < 4 * b → M'.1 402 j = M.1 402 j) ∧ M'.1 403 (6 * b + 4) = nI (z_sum (A 0 0) w) ∧ (∀ j, j ≠ 6 * b + 4 → M'.1 403 j = M.1 403 j)) := by
  obtain ⟨hc0, w2, w3, w4, w5, w6, w7, w8, w9, w10, w11, w12⟩ := id hW
  unfold f_Mo_notes
  refine z_bind (P := fun s => z_Fr (fun i => i ≠ 401) M s ∧ (∀ j, j < 12 → s.1 401 (12 * b + j) = M.1 399 j) ∧ (∀ j, j < 12 * b → s.1 401 j = M.1 401 j)) ?_ (fun M1 h1 => ?_)
  · refine z_loop (fun n c s => lp_Mo_notes_2 366 (nI b) n c s) (fun c s => z_Fr (fun i => i ≠ 401) M s ∧ (∀ j, j < c → s.1 401 (12 * b + j) = M.1 399 j) ∧ (∀ j, j < 12 * b → s.1 401 j = M.1 401 j)) _ 12 ?_ ?_ jfuel 0 M (by decide) (by decide) ⟨z_Fr.rf, fun j h => by omega, fun j h => rfl⟩
    · intro n c M' hc hI k
      show z_ok (lp_Mo_notes_2 366 (nI b) (n + 1) (nI c) M') _
      rw [lp_Mo_notes_2, jm_52, jm_59, zl_12, pk_mul, nI_add, nI_1]
      refine z_pos (nI_lt hc (by decide)) ?_
      refine z_eq (zi_399 _ (by omega)) ?_
      refine z_eq (zs_401 _ (by omega)) ?_
      refine k _ ⟨hI.1.sI (by omega), fun j hj => ?_, fun j hj => ?_⟩
      · by_cases e : j = c
        · subst e; rw [z_sIs, hI.1.1 399 (by decide)]
        · rw [z_sIk _ _ _ _ (by omega)]; exact hI.2.1 j (by omega)
      · rw [z_sIk _ _ _ _ (by omega)]; exact hI.2.2 j hj
    · intro n M' hI
      show z_ok (lp_Mo_notes_2 366 (nI b) (n + 1) (nI 12) M') _
      rw [lp_Mo_notes_2]
      exact z_neg (by decide) (z_some hI)
  · refine z_bind (P := fun s => z_Fr (fun i => i ≠ 402) M1 s ∧ (∀ j, j < 4 → s.1 402 (4 * b + j) = M1.1 400 j) ∧ (∀ j, j < 4 * b → s.1 402 j = M1.1 402 j)) ?_ (fun M2 h2 => ?_)
    · refine z_loop (fun n c s => lp_Mo_notes_33 366 (nI b) n c s) (fun c s => z_Fr (fun i => i ≠ 402) M1 s ∧ (∀ j, j < c → s.1 402 (4 * b + j) = M1.1 400 j) ∧ (∀ j, j < 4 * b → s.1 402 j = M1.1 402 j)) _ 4 ?_ ?_ jfuel 0 M1 (by decide) (by decide) ⟨z_Fr.rf, fun j h => by omega, fun j h => rfl⟩
      · intro n c M' hc hI k
        show z_ok (lp_Mo_notes_33 366 (nI b) (n + 1) (nI c) M') _
        rw [lp_Mo_notes_33, jm_53, jm_60, zl_4, pk_mul, nI_add, nI_1]
        refine z_pos (nI_lt hc (by decide)) ?_
        refine z_eq (zi_400 _ (by omega)) ?_
        refine z_eq (zs_402 _ (by omega)) ?_
        refine k _ ⟨hI.1.sI (by omega), fun j hj => ?_, fun j hj => ?_⟩
        · by_cases e : j = c
          · subst e; rw [z_sIs, hI.1.1 400 (by decide)]
          · rw [z_sIk _ _ _ _ (by omega)]; exact hI.2.1 j (by omega)
        · rw [z_sIk _ _ _ _ (by omega)]; exact hI.2.2 j hj
      · intro n M' hI
        show z_ok (lp_Mo_notes_33 366 (nI b) (n + 1) (nI 4) M') _
        rw [lp_Mo_notes_33]
        exact z_neg (by decide) (z_some hI)
    · refine z_eq (m_waterAll hW (w := w) (by rw [h2.1.1 366 (by decide), h1.1.1 366 (by decide)]; exact h0) (fun c hc => by rw [h2.1.1 399 (by decide), h1.1.1 399 (by decide)]; exact hP.1 c hc)) ?_
      rw [jm_61, zl_6, zl_4, pk_mul, nI_add]
      refine z_eq (zs_403 _ (by omega)) (z_some ⟨(((h1.1.wk (fun i q => q.1)).tr (h2.1.wk (fun i q => q.2.1))).sI (by omega)), fun c hc => ?_, fun j hj => ?_, fun i hi => ?_, fun j hj => ?_, z_sIs _ _ _ _, fun j hj => ?_⟩)
      · rw [z_sIa _ _ _ _ (by decide), h2.1.1 401 (by decide), h1.2.1 c (by omega)]; exact hP.1 c hc
      · rw [z_sIa _ _ _ _ (by decide), h2.1.1 401 (by decide)]; exact h1.2.2 j hj
      · rw [z_sIa _ _ _ _ (by decide), h2.2.1 i (by omega), h1.1.1 400 (by decide)]; exact hP.2.1 i hi
      · rw [z_sIa _ _ _ _ (by decide), h2.2.2 j hj, h1.1.1 402 (by decide)]
      · rw [z_sIk _ _ _ _ hj, h2.1.1 403 (by decide), h1.1.1 403 (by decide)]
/-- nothing is supposed -/
def z_NS (M : SM) : Prop := M.1 366 47 = nI 0 ∧ M.1 366 48 = -1 ∧ M.1 366 50 = -1
theorem m_does0 {n d b : Nat} {P : ZP} {M : SM} (hn : n ≤ 8) (hP : z_WP n P) (hT : z_TR n P M) (hS : z_NS M) (hd : d < n) (h1 : 1 ≤ b) (hb : b < 1000) : f_Mo_does 366 (nI d) (nI b) M = some (nI (z_pa P d b)) := by
  unfold f_Mo_does
  rw [hS.1, hS.2.1, hS.2.2]
  rw [if_neg (fun r => by have := (z_bit 0 (by decide) d (by omega)).mp r; rw [Nat.zero_testBit] at this; cases this), if_pos rfl]
  have e1 : ¬ nI d = -1 := z_neg1 (by omega)
  show (Option.bind (if nI d = -1 then _ else some (nI b)) _) = _
  rw [if_neg e1]
  show (f_Mo_plainly _ _ _ _).bind _ = _
  rw [m_plainly hn hP hT hd (by omega) (by omega)]; rfl
theorem m_plays (hW : z_W A) (hR : z_R A) (hO : z_OR A M) (hP : z_WP (A 0 3) P) (hT : z_TR (A 0 3) P M) (hS : z_NS M) :
    z_ok (f_Mo_plays 366 M) (fun M' => z_RR A (r_v A (z_pa P)) 60 M' ∧ z_LK M M') := by
  obtain ⟨hc0, w2, w3, w4, w5, w6, w7, w8, w9, w10, w11, w12⟩ := id hW
  unfold f_Mo_plays
  refine z_bind (m_begins hW hO) (fun M1 h1 => ?_)
  obtain ⟨⟨pf, P1⟩, F1⟩ := h1
  have L1 : z_LK M M1 := ⟨F1.wk (fun i q => by omega), fun k _ => by rw [F1.1 366 (by decide)]⟩
  refine z_bind (P := fun s => z_Fr (fun i => i ≠ 403) M1 s ∧ (∀ j, j < 6 → s.1 403 j = nI 0)) ?_ (fun M2 h2 => ?_)
  · refine z_loop (fun n c s => lp_Mo_plays_6 366 n c s) (fun c s => z_Fr (fun i => i ≠ 403) M1 s ∧ (∀ j, j < c → s.1 403 j = nI 0)) _ 6 ?_ ?_ jfuel 0 M1 (by decide) (by decide) ⟨z_Fr.rf, fun j h => by omega⟩
    · intro n c M' hc hI k
      show z_ok (lp_Mo_plays_6 366 (n + 1) (nI c) M') _
      rw [lp_Mo_plays_6, jm_61, nI_1, zl_6]
      refine z_pos (nI_lt hc (by decide)) ?_
      refine z_eq (zs_403 _ (by omega)) ?_
      refine k _ ⟨hI.1.sI (by omega), fun j hj => ?_⟩
      by_cases e : j = c
      · subst e; rw [z_sIs]; rfl
      · rw [z_sIk _ _ _ _ e]; exact hI.2 j (by omega)
    · intro n M' hI
      show z_ok (lp_Mo_plays_6 366 (n + 1) (nI 6) M') _
      rw [lp_Mo_plays_6]
      exact z_neg (by decide) (z_some hI)
  · have L2 : z_LK M M2 := L1.tr ⟨h2.1.wk (fun i q => by omega), fun k _ => by rw [h2.1.1 366 (by decide)]⟩
    have P2 : z_Q3 A (A 2) (A 7) pf M2 := ⟨fun c hc => by rw [h2.1.1 399 (by decide)]; exact P1.1 c hc, fun c hc => by rw [h2.1.1 400 (by decide)]; exact P1.2.1 c hc, fun c hc => by rw [h2.1.1 366 (by decide)]; exact P1.2.2 c hc⟩
    show z_ok ((f_Mo_notes 366 (nI 0) M2).bind _) _
    refine z_bind (m_notes hW ((L2.2 31 (by decide)).trans hO.1) P2 (by decide)) (fun M3 h3 => ?_)
    obtain ⟨F3, q1, q2, q3, q4, q5, q6⟩ := h3
    have L3 : z_LK M M3 := L2.tr ⟨F3.wk (fun i q => by omega), fun k _ => by rw [F3.1 366 (by decide)]⟩
    refine z_bind (P := fun M' => z_RR A (r_v A (z_pa P)) 60 M' ∧ z_LK M M') ?_ (fun M' h => z_some h)
    refine z_loop (fun n c s => lp_Mo_plays_32 366 n c s) (fun c s => ∃ pf : Nat → Nat, z_Q3 A (r_v A (z_pa P) (c - 1)).1 (r_v A (z_pa P) (c - 1)).2.1 pf s ∧ 1 ≤ c ∧ z_RR A (r_v A (z_pa P)) (c - 1) s ∧ z_LK M s) _ 61 ?_ ?_ jfuel 1 M3 (by decide) (by decide) ⟨pf, ?_, by decide, ?_, L3⟩
    · intro n c M' hc hI k
      obtain ⟨pf, p1, p3, p4, p5⟩ := hI
      have O' := hO.lk p5
      have T' := hT.lk p5
      have S' : z_NS M' := ⟨(p5.2 47 (by decide)).trans hS.1, (p5.2 48 (by decide)).trans hS.2.1, (p5.2 50 (by decide)).trans hS.2.2⟩
      show z_ok (lp_Mo_plays_32 366 (n + 1) (nI c) M') _
      rw [lp_Mo_plays_32, zl_60]
      refine z_neg (nI_nlt (by omega) (by omega)) ?_
      refine z_bind (m_goes (S := r_v A (z_pa P) (c - 1)) (al := z_pa P) hW hR O' (r_v_G hW _) p1 (fun d hd => z_pa_b hP hd _) (fun M'' hK d hd => m_does0 w2 hP (T'.lk hK.lk) ⟨(hK.2 47 (by decide)).trans S'.1, (hK.2 48 (by decide)).trans S'.2.1, (hK.2 50 (by decide)).trans S'.2.2⟩ hd p3 (by omega))) (fun M4 h4 => ?_)
      have hr : r_v A (z_pa P) c = r_bar A (z_pa P) c (r_v A (z_pa P) (c - 1)) := by
        obtain ⟨c', rfl⟩ : ∃ c', c = c' + 1 := ⟨c - 1, by omega⟩
        rfl
      obtain ⟨P4, K4⟩ := h4
      rw [← hr] at P4
      have O4 := O'.qk K4
      refine z_bind (m_notes hW O4.1 P4 (by omega)) (fun M5 h5 => ?_)
      obtain ⟨F5, u1, u2, u3, u4, u5, u6⟩ := h5
      have L5 : z_LK M M5 := (p5.tr K4.lk).tr ⟨F5.wk (fun i q => by omega), fun k _ => by rw [F5.1 366 (by decide)]⟩
      have r4 : ∀ j, j < 6 * c → M5.1 403 j = M'.1 403 j := fun j hj => by rw [u6 j (by omega), K4.1.1 403 (by decide)]
      have hs : ∀ k, k < 5 → M5.1 366 (54 + k) = nI (if k = 0 then r_on A (z_pa P) c (r_v A (z_pa P) (c - 1)).1 4 else r_on A (z_pa P) c (r_v A (z_pa P) (c - 1)).1 (k - 1)) := fun k hk => by rw [F5.1 366 (by decide)]; exact P4.2.2 k hk
      have pp := p4 (c - 1) (Nat.le_refl _)
      have g0 : M5.1 403 (6 * c - 6) = nI ((r_v A (z_pa P) (c - 1)).2.2 0) := by rw [r4 _ (by omega), show 6 * c - 6 = 6 * (c - 1) + 0 by omega]; exact pp.2.2.1 0 (by decide)
      have g1 : M5.1 403 (6 * c - 6 + 1) = nI ((r_v A (z_pa P) (c - 1)).2.2 1) := by rw [r4 _ (by omega), show 6 * c - 6 + 1 = 6 * (c - 1) + 1 by omega]; exact pp.2.2.1 1 (by decide)
      have g2 : M5.1 403 (6 * c - 6 + 2) = nI ((r_v A (z_pa P) (c - 1)).2.2 2) := by rw [r4 _ (by omega), show 6 * c - 6 + 2 = 6 * (c - 1) + 2 by omega]; exact pp.2.2.1 2 (by decide)
      have g3 : M5.1 403 (6 * c - 6 + 3) = nI ((r_v A (z_pa P) (c - 1)).2.2 3) := by rw [r4 _ (by omega), show 6 * c - 6 + 3 = 6 * (c - 1) + 3 by omega]; exact pp.2.2.1 3 (by decide)
      have g5 : M5.1 403 (6 * c - 6 + 5) = nI ((r_v A (z_pa P) (c - 1)).2.2 4) := by rw [r4 _ (by omega), show 6 * c - 6 + 5 = 6 * (c - 1) + 5 by omega]; exact pp.2.2.2.2
      have ht : (r_on A (z_pa P) c (r_v A (z_pa P) (c - 1)).1 4) ≤ 1 := (r_in_b (A := A) (al := z_pa P) (b := c) w9 (Nat.le_refl _)).2
      rw [jm_61, zl_6, zl_2, zl_3, zl_5, pk_mul, z_sub (by omega), nI_1, nI_1, nI_1, nI_add, nI_add, nI_add, nI_add, nI_add, nI_add]
      refine z_eq (zi_403 _ (by omega)) ?_
      have s0 := hs 1 (by decide)
      have s1 := hs 2 (by decide)
      have s2 := hs 3 (by decide)
      have s3 := hs 4 (by decide)
      have s4 := hs 0 (by decide)
      simp only [Nat.reduceAdd, Nat.reduceSub, Nat.reduceEqDiff, if_false, if_true, ↓reduceIte] at s0 s1 s2 s3 s4
      have q : ∀ (X : SM) (k : Nat) (v : Int32) (j : Nat), (sI X 403 k v).1 366 j = X.1 366 j := fun X k v j => by rw [z_sIa _ _ _ _ (by omega)]
      rw [g0, s0, nI_add]
      refine z_eq (zs_403 _ (by omega)) ?_
      refine z_eq (zi_403 _ (by omega)) ?_
      rw [z_sIk _ _ _ _ (by omega), g1, q, s1, nI_add]
      refine z_eq (zs_403 _ (by omega)) ?_
      refine z_eq (zi_403 _ (by omega)) ?_
      rw [z_sIk _ _ _ _ (by omega), z_sIk _ _ _ _ (by omega), g2, q, q, s2, nI_add]
      refine z_eq (zs_403 _ (by omega)) ?_
      refine z_eq (zi_403 _ (by omega)) ?_
      rw [z_sIk _ _ _ _ (by omega), z_sIk _ _ _ _ (by omega), z_sIk _ _ _ _ (by omega), g3, q, q, q, s3, nI_add]
      refine z_eq (zs_403 _ (by omega)) ?_
      refine z_eq (zi_403 _ (by omega)) ?_
      rw [z_sIk _ _ _ _ (by omega), z_sIk _ _ _ _ (by omega), z_sIk _ _ _ _ (by omega), z_sIk _ _ _ _ (by omega), g5, q, q, q, q, s4]
      refine z_eq (r := nI (r_on A (z_pa P) c (r_v A (z_pa P) (c - 1)).1 4)) (by
        by_cases e : r_on A (z_pa P) c (r_v A (z_pa P) (c - 1)).1 4 = 0
        · rw [e]; rfl
        · rw [show r_on A (z_pa P) c (r_v A (z_pa P) (c - 1)).1 4 = 1 by omega]; rfl) ?_
      rw [nI_add]
      refine z_eq (zs_403 _ (by omega)) ?_
      have hv : ∀ k, (r_v A (z_pa P) (c - 1)).2.2 k + r_on A (z_pa P) c (r_v A (z_pa P) (c - 1)).1 k = (r_v A (z_pa P) c).2.2 k := fun k => by rw [hr]; rfl
      rw [hv, hv, hv, hv, hv]
      refine k _ ⟨(fun k => (M5.1 366 (54 + k)).toBitVec.toNat), ?_, by omega, fun b hb => ?_, ((((L5.r (a := 403) (by decide) (by decide)).r (a := 403) (by decide) (by decide)).r (a := 403) (by decide) (by decide)).r (a := 403) (by decide) (by decide)).r (a := 403) (by decide) (by decide)⟩
      · rw [show c + 1 - 1 = c from rfl]
        refine ⟨fun i hi => ?_, fun i hi => ?_, fun i hi => by rw [q, q, q, q, q]; exact z_any _⟩
        · rw [z_sIa _ _ _ _ (by decide), z_sIa _ _ _ _ (by decide), z_sIa _ _ _ _ (by decide), z_sIa _ _ _ _ (by decide), z_sIa _ _ _ _ (by decide), F5.1 399 (by decide)]; exact P4.1 i hi
        · rw [z_sIa _ _ _ _ (by decide), z_sIa _ _ _ _ (by decide), z_sIa _ _ _ _ (by decide), z_sIa _ _ _ _ (by decide), z_sIa _ _ _ _ (by decide), F5.1 400 (by decide)]; exact P4.2.1 i hi
      · rw [show c + 1 - 1 = c from rfl] at hb
        have q1 : ∀ (a : Nat), a ≠ 403 → ∀ (X : SM) (k : Nat) (v : Int32), (sI X 403 k v).1 a = X.1 a := fun a ha X k v => z_sIa _ _ _ _ ha
        rw [q1 401 (by decide), q1 401 (by decide), q1 401 (by decide), q1 401 (by decide), q1 401 (by decide), q1 402 (by decide), q1 402 (by decide), q1 402 (by decide), q1 402 (by decide), q1 402 (by decide)]
        by_cases e : b = c
        · subst e
          refine ⟨u1, u3, fun k hk => ?_, ?_, z_sIs _ _ _ _⟩
          · match k, hk with
            | 0, _ => rw [z_sIk _ _ _ _ (by omega), z_sIk _ _ _ _ (by omega), z_sIk _ _ _ _ (by omega), z_sIk _ _ _ _ (by omega)]; exact z_sIs _ _ _ _
            | 1, _ => rw [z_sIk _ _ _ _ (by omega), z_sIk _ _ _ _ (by omega), z_sIk _ _ _ _ (by omega), z_sIs]
            | 2, _ => rw [z_sIk _ _ _ _ (by omega), z_sIk _ _ _ _ (by omega), z_sIs]
            | 3, _ => rw [z_sIk _ _ _ _ (by omega), z_sIs]
            | k + 4, h => omega
          · rw [z_sIk _ _ _ _ (by omega), z_sIk _ _ _ _ (by omega), z_sIk _ _ _ _ (by omega), z_sIk _ _ _ _ (by omega), z_sIk _ _ _ _ (by omega)]; exact u5
        · have pb := p4 b (by omega)
          have e3 : ∀ j, j < 6 * c → ∀ x1 x2 x3 x4 x5 : Int32, (sI (sI (sI (sI (sI M5 403 (6 * c) x1) 403 (6 * c + 1) x2) 403 (6 * c + 2) x3) 403 (6 * c + 3) x4) 403 (6 * c + 5) x5).1 403 j = M'.1 403 j := fun j hj x1 x2 x3 x4 x5 => by
            rw [z_sIk _ _ _ _ (by omega), z_sIk _ _ _ _ (by omega), z_sIk _ _ _ _ (by omega), z_sIk _ _ _ _ (by omega), z_sIk _ _ _ _ (by omega)]; exact r4 j hj
          refine ⟨fun i hi => ?_, fun i hi => ?_, fun k hk => ?_, ?_, ?_⟩
          · rw [u2 _ (by omega), K4.1.1 401 (by decide)]; exact pb.1 i hi
          · rw [u4 _ (by omega), K4.1.1 402 (by decide)]; exact pb.2.1 i hi
          · rw [e3 _ (by omega)]; exact pb.2.2.1 k hk
          · rw [e3 _ (by omega)]; exact pb.2.2.2.1
          · rw [e3 _ (by omega)]; exact pb.2.2.2.2
    · intro n M' hI
      obtain ⟨pf, p1, p3, p4, p5⟩ := hI
      show z_ok (lp_Mo_plays_32 366 (n + 1) (nI 61) M') _
      rw [lp_Mo_plays_32]
      exact z_pos (by decide) (z_some ⟨p4, p5⟩)
    · exact ⟨fun i hi => by rw [F3.1 399 (by decide)]; exact P2.1 i hi, fun i hi => by rw [F3.1 400 (by decide)]; exact P2.2.1 i hi, fun i hi => by rw [F3.1 366 (by decide)]; exact P2.2.2 i hi⟩
    · intro b hb
      have e : b = 0 := by omega
      subst e
      refine ⟨q1, q3, fun k hk => ?_, q5, ?_⟩
      · rw [q6 _ (by omega)]; exact h2.2 _ (by omega)
      · rw [q6 _ (by omega)]; exact h2.2 5 (by decide)
theorem m_goesTo {P : ZP} {s h l : Nat} (hW : z_W A) (hR : z_R A) (hO : z_OR A M) (hP : z_WP (A 0 3) P) (hT : z_TR (A 0 3) P M) (hs : s < 256) (h47 : M.1 366 47 = nI s) (h48 : (M.1 366 48 = nI h ∧ M.1 366 49 = nI l) ∨ (M.1 366 48 = -1 ∧ 8 ≤ h)) (hh : h < 100) (hl : l < 1000) (h50 : M.1 366 50 = -1) (hb : b ≤ 60) :
    z_ok (f_Mo_goesTo 366 (nI b) M) (fun M' => (∃ pf, z_Q3 A (r_v A (z_su P s h l 0) b).1 (r_v A (z_su P s h l 0) b).2.1 pf M') ∧ z_QK M M') := by
  obtain ⟨hc0, w2, w3, w4, w5, w6, w7, w8, w9, w10, w11, w12⟩ := id hW
  unfold f_Mo_goesTo
  refine z_bind (m_begins hW hO) (fun M1 h1 => ?_)
  obtain ⟨⟨pf, P1⟩, F1⟩ := h1
  have L1 : z_QK M M1 := ⟨F1.wk (fun i q => by omega), fun k _ => by rw [F1.1 366 (by decide)]⟩
  refine z_bind (P := fun M' => (∃ pf, z_Q3 A (r_v A (z_su P s h l 0) b).1 (r_v A (z_su P s h l 0) b).2.1 pf M') ∧ z_QK M M') ?_ (fun M' h => z_some h)
  refine z_loop (fun n c s => lp_Mo_goesTo_6 366 (nI b) n c s) (fun c M' => (∃ pf, z_Q3 A (r_v A (z_su P s h l 0) (c - 1)).1 (r_v A (z_su P s h l 0) (c - 1)).2.1 pf M') ∧ 1 ≤ c ∧ z_QK M M') _ (b + 1) ?_ ?_ jfuel 1 M1 (by omega) (by rw [z_jf]; omega) ⟨⟨pf, P1⟩, by decide, L1⟩
  · intro n c M' hc hI k
    obtain ⟨⟨pf, p1⟩, p3, p5⟩ := hI
    have O' := hO.qk p5
    have T' := hT.lk p5.lk
    show z_ok (lp_Mo_goesTo_6 366 (nI b) (n + 1) (nI c) M') _
    rw [lp_Mo_goesTo_6]
    refine z_neg (nI_nlt (by omega) (by omega)) ?_
    refine z_bind (m_goes (S := r_v A (z_su P s h l 0) (c - 1)) (al := z_su P s h l 0) hW hR O' (r_v_G hW _) p1 (fun d hd => z_su_b hP hd) (fun M'' hK d hd => ?_)) (fun M4 h4 => ?_)
    · have e : ∀ k, k < 54 → M''.1 366 k = M.1 366 k := fun k hk => by rw [hK.2 k (Or.inl hk)]; exact p5.2 k (Or.inl hk)
      exact m_does1 w2 hP (T'.lk hK.lk) hs ((e 47 (by decide)).trans h47) (by rw [e 48 (by decide), e 49 (by decide)]; exact h48) hh hl ((e 50 (by decide)).trans h50) hd p3 (by omega)
    · rw [nI_1]
      obtain ⟨c', rfl⟩ : ∃ c', c = c' + 1 := ⟨c - 1, by omega⟩
      exact k M4 ⟨⟨_, h4.1⟩, by omega, p5.tr h4.2⟩
  · intro n M' hI
    show z_ok (lp_Mo_goesTo_6 366 (nI b) (n + 1) (nI (b + 1)) M') _
    rw [lp_Mo_goesTo_6]
    exact z_pos (nI_lt (by omega) (by omega)) (z_some ⟨hI.1, hI.2.2⟩)
end
