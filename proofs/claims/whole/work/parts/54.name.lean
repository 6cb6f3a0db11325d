/-! ===== pure: a NAME ===== -/
def z_nl (T : Nat → Nat) (n b k : Nat) : Nat := z_lt0 T n b k - 96
/-- a NAME as a number tells its letters -/
theorem z_EN_inj {f g : Nat → Nat} : ∀ {m m' : Nat}, (∀ k, k < m → 1 ≤ f k ∧ f k < 27) → (∀ k, k < m' → 1 ≤ g k ∧ g k < 27) → z_it (fun k v => 27 * v + f k) m 0 = z_it (fun k v => 27 * v + g k) m' 0 → m = m' ∧ ∀ k, k < m → f k = g k
  | 0, 0, _, _, _ => ⟨rfl, fun k h => by omega⟩
  | 0, m' + 1, _, hg, h => by
    have h : 0 = 27 * z_it (fun k v => 27 * v + g k) m' 0 + g m' := h
    have := hg m' (by omega)
    omega
  | m + 1, 0, hf, _, h => by
    have h : 27 * z_it (fun k v => 27 * v + f k) m 0 + f m = 0 := h
    have := hf m (by omega)
    omega
  | m + 1, m' + 1, hf, hg, h => by
    have h : 27 * z_it (fun k v => 27 * v + f k) m 0 + f m = 27 * z_it (fun k v => 27 * v + g k) m' 0 + g m' := h
    have h1 := hf m (by omega)
    have h2 := hg m' (by omega)
    have ih := z_EN_inj (m := m) (m' := m') (fun k hk => hf k (by omega)) (fun k hk => hg k (by omega)) (by omega)
    refine ⟨by omega, fun k hk => ?_⟩
    by_cases e : k = m
    · rw [e]
      have e2 : m = m' := ih.1
      have e3 : f m = g m' := by omega
      rw [e3, ← e2]
    · exact ih.2 k (by omega)
theorem z_it_eq {f g : Nat → Nat} : ∀ {m : Nat}, (∀ k, k < m → f k = g k) → z_it (fun k v => 27 * v + f k) m 0 = z_it (fun k v => 27 * v + g k) m 0
  | 0, _ => rfl
  | m + 1, h => by
    show 27 * z_it _ m 0 + f m = 27 * z_it _ m 0 + g m
    rw [z_it_eq (m := m) (fun k hk => h k (by omega)), h m (by omega)]
def z_thr (A : ZA) (nm : Nat → Nat → Nat) (L : Nat → Nat) : Prop := ∃ i w, i < 3 ∧ w < A 0 (3 + i) ∧ ∀ k, k < 6 → nm (8 * i + w) k = L k
/-- NAMES as they are kept -/
def z_nk (A : ZA) (nm : Nat → Nat → Nat) : Prop := ∀ i w, i < 3 → w < A 0 (3 + i) → 1 ≤ nm (8 * i + w) 6 ∧ nm (8 * i + w) 6 ≤ 6 ∧ ∀ k, k < 6 → nm (8 * i + w) k < 27 ∧ (nm (8 * i + w) k = 0 ↔ nm (8 * i + w) 6 ≤ k)
def z_nC (R : Nat) (A : ZA) (nm : Nat → Nat → Nat) (M : SM) : Prop := ∀ i w, i < 3 → w < A 0 (3 + i) → ∀ k, k < 6 → M.1 (R + 6 + (8 * i + w)) k = nI (if nm (8 * i + w) k = 0 then 0 else nm (8 * i + w) k + 96)
def z_nM (A : ZA) (nm : Nat → Nat → Nat) (N : SM) : Prop := ∀ i w, i < 3 → w < A 0 (3 + i) → N.2 386 (8 * i + w) = lN (z_EN nm (8 * i + w))
def z_nA (A : ZA) : Prop := ∀ i, i < 3 → A 0 (3 + i) ≤ 8
section
variable {T : Nat → Nat} {n b a : Nat} {M N : SM} {R : Nat} {A : ZA} {nm : Nat → Nat → Nat}
theorem z_nl_s (hw : z_wt n T) (hs : z_so T n b = 1) (h6 : z_en T n b - z_sk T n b ≤ 6) (hb : b ≤ n) : (∀ k, k < z_en T n b - z_sk T n b → z_lt0 T n b k = T (z_sk T n b + k) ∧ 97 ≤ T (z_sk T n b + k) ∧ T (z_sk T n b + k) ≤ 122) ∧ (∀ k, z_en T n b - z_sk T n b ≤ k → z_lt0 T n b k = 0) ∧ 1 ≤ z_en T n b - z_sk T n b := by
  have h1 := z_so_1 hs
  have hen := z_en_s (T := T) hb
  have hwd := z_wd_s (T := T) (b := z_sk T n b) (Nat.le_of_lt h1.1)
  rw [← h1.2.2] at hwd
  refine ⟨fun k hk => ⟨z_lt1 hs (by omega), ?_⟩, fun k hk => ?_, by have := hen.2.2.1 h1.1; omega⟩
  · exact hwd.2.2.1 _ (by omega) (by omega)
  · unfold z_lt0
    rw [if_neg (fun q => by omega)]
theorem z_nl_c (hw : z_wt n T) (hs : z_so T n b = 1) (h6 : z_en T n b - z_sk T n b ≤ 6) (hb : b ≤ n) (k : Nat) : z_lt0 T n b k = (if z_nl T n b k = 0 then 0 else z_nl T n b k + 96) ∧ z_nl T n b k < 27 ∧ (z_nl T n b k = 0 ↔ z_en T n b - z_sk T n b ≤ k) := by
  obtain ⟨s1, s2, s3⟩ := z_nl_s hw hs h6 hb
  unfold z_nl
  by_cases c : k < z_en T n b - z_sk T n b
  · have := s1 k c
    rw [this.1, if_neg (by omega)]; omega
  · rw [s2 k (by omega)]; exact ⟨rfl, by omega, by omega⟩
theorem c_named (hR : R = 7 ∨ R = 57) (hO : z_OC R A M) {i : Nat} (hi : i < 3) : f_Op_named R (nI i) M = some (nI (A 0 (3 + i))) := by
  unfold f_Op_named
  rw [jo_10 hR, jo_11 hR]
  have h3 : i = 0 ∨ i = 1 ∨ i = 2 := by omega
  rcases h3 with rfl | rfl | rfl
  · rw [if_pos (show nI 0 = 0 from rfl), hO.2.2.2.1]
  · rw [if_neg (show ¬ nI 1 = 0 by decide), if_pos (show nI 1 = 1 from rfl), hO.2.2.2.2.1]
  · rw [if_neg (show ¬ nI 2 = 0 by decide), if_neg (show ¬ nI 2 = 1 by decide), if_pos (show nI 2 = 2 from rfl), hO.2.2.2.2.2.1]
theorem c_isName (hR : R = 7 ∨ R = 57) (hj : jop (M.1 107 2) = R) (hn : z_nC R A nm M) (hw : z_wt n T) (hs : z_so T n b = 1) (h6 : z_en T n b - z_sk T n b ≤ 6) (hb : b ≤ n) (hD : z_RD T n b M) (hk : z_nk A nm) (h8 : z_nA A) {i w : Nat} (hi : i < 3) (hww : w < A 0 (3 + i)) :
    z_ok (f_Or_isName 107 (nI (8 * i + w)) M) (fun v => (v = 1 ∧ ∀ k, k < 6 → nm (8 * i + w) k = z_nl T n b k) ∨ (v = 0 ∧ ¬ ∀ k, k < 6 → nm (8 * i + w) k = z_nl T n b k)) := by
  unfold f_Or_isName
  have h88 := h8 i hi
  have key : z_ok (lp_Or_isName_2 107 (nI (8 * i + w)) M jfuel (nI 0)) (fun u => (u = .inl () ∧ ∀ k, k < 6 → nm (8 * i + w) k = z_nl T n b k) ∨ (u = .inr 0 ∧ ¬ ∀ k, k < 6 → nm (8 * i + w) k = z_nl T n b k)) := by
    refine z_loop0 (fun f k => lp_Or_isName_2 107 (nI (8 * i + w)) M f k) (fun c => ∀ k, k < c → nm (8 * i + w) k = z_nl T n b k) _ 6 ?_ ?_ jfuel 0 (by decide) (by rw [z_jf]; decide) (fun k h => by omega)
    · intro f c hc hI k
      show z_ok (lp_Or_isName_2 _ _ _ _ _) _
      rw [lp_Or_isName_2, hj, jo_9 hR, jp_107_0, jp_3_2, zl_6, if_pos (nI_lt hc (by decide)), zco_5 hR _ (by omega) hc]
      simp only [Option.bind_some]
      rw [z_at jl_4 (by omega) (by decide)]
      simp only [Option.bind_some]
      have e1 := hn i w hi hww c hc
      have e2 := hD.2.2.2 c (by omega)
      have e3 := z_nl_c hw hs h6 hb c
      have e4 := ((hk i w hi hww).2.2 c hc).1
      rw [show R + 6 + (8 * i + w) = R + 6 + (8 * i + w) from rfl, e1, e2, e3.1]
      have e5 := e3.2.1
      by_cases q : nm (8 * i + w) c = z_nl T n b c
      · rw [q, if_pos rfl, nI_1]
        exact k (fun j hj => by
          by_cases e : j = c
          · rw [e]; exact q
          · exact hI j (by omega))
      · rw [if_neg]
        · exact z_some (Or.inr ⟨rfl, fun t => q (t c hc)⟩)
        · intro t
          have t := (nI_eq (by split <;> omega) (by split <;> omega)).mp t
          split at t <;> split at t <;> omega
    · intro f hI
      show z_ok (lp_Or_isName_2 _ _ _ _ _) _
      rw [lp_Or_isName_2, if_neg (by decide)]
      exact z_some (Or.inl ⟨rfl, hI⟩)
  obtain ⟨u, e, q⟩ := key
  rw [show (0 : Int32) = nI 0 from rfl, e]
  rcases q with ⟨rfl, q⟩ | ⟨rfl, q⟩
  · exact ⟨_, rfl, Or.inl ⟨rfl, q⟩⟩
  · exact ⟨_, rfl, Or.inr ⟨rfl, q⟩⟩
theorem c_isThere (hR : R = 7 ∨ R = 57) (hj : jop (M.1 107 2) = R) (hO : z_OC R A M) (hn : z_nC R A nm M) (hw : z_wt n T) (hs : z_so T n b = 1) (h6 : z_en T n b - z_sk T n b ≤ 6) (hb : b ≤ n) (hD : z_RD T n b M) (hk : z_nk A nm) (h8 : z_nA A) :
    z_ok (f_Or_isThere 107 M) (fun v => (v = 1 ∧ z_thr A nm (z_nl T n b)) ∨ (v = 0 ∧ ¬ z_thr A nm (z_nl T n b))) := by
  unfold f_Or_isThere
  have key : z_ok (lp_Or_isThere_2 107 M jfuel (nI 0)) (fun u => (u = .inr 1 ∧ z_thr A nm (z_nl T n b)) ∨ (u = .inl () ∧ ¬ z_thr A nm (z_nl T n b))) := by
    refine z_loop0 (fun f k => lp_Or_isThere_2 107 M f k) (fun c => ∀ i w, i < c → w < A 0 (3 + i) → ¬ ∀ k, k < 6 → nm (8 * i + w) k = z_nl T n b k) _ 3 ?_ ?_ jfuel 0 (by decide) (by rw [z_jf]; decide) (fun k w h => by omega)
    · intro f c hc hI k
      show z_ok (lp_Or_isThere_2 _ _ _ _) _
      rw [lp_Or_isThere_2, zl_3, if_pos (nI_lt hc (by decide))]
      have h88 := h8 c hc
      have k2 : z_ok (lp_Or_isThere_9 107 (nI c) M jfuel (nI 0)) (fun u => (u = .inr 1 ∧ z_thr A nm (z_nl T n b)) ∨ (u = .inl () ∧ ∀ w, w < A 0 (3 + c) → ¬ ∀ k, k < 6 → nm (8 * c + w) k = z_nl T n b k)) := by
        refine z_loop0 (fun f k => lp_Or_isThere_9 107 (nI c) M f k) (fun d => ∀ w, w < d → ¬ ∀ k, k < 6 → nm (8 * c + w) k = z_nl T n b k) _ (A 0 (3 + c)) ?_ ?_ jfuel 0 (by omega) (by rw [z_jf]; omega) (fun w h => by omega)
        · intro f d hd hJ k
          show z_ok (lp_Or_isThere_9 _ _ _ _ _) _
          rw [lp_Or_isThere_9, hj, c_named hR hO hc]
          simp only [Option.bind_some]
          rw [if_pos (nI_lt hd (by omega))]
          have e : f_Sp_nameRow (nI c) (nI d) = some (nI (8 * c + d)) := by
            unfold f_Sp_nameRow
            rw [zl_8, pk_mul, nI_add, Nat.mul_comm]
          rw [e]
          simp only [Option.bind_some]
          refine z_bind (c_isName hR hj hn hw hs h6 hb hD hk h8 hc hd) fun v hv => ?_
          rcases hv with ⟨rfl, v2⟩ | ⟨rfl, v2⟩
          · exact z_neg (by decide) (z_some (Or.inl ⟨rfl, c, d, hc, hd, v2⟩))
          · refine z_pos rfl ?_
            rw [nI_1]
            exact k (fun w hw' => by
              by_cases e : w = d
              · rw [e]; exact v2
              · exact hJ w (by omega))
        · intro f hJ
          show z_ok (lp_Or_isThere_9 _ _ _ _ _) _
          rw [lp_Or_isThere_9, hj, c_named hR hO hc]
          simp only [Option.bind_some]
          rw [if_neg (nI_nlt (Nat.le_refl _) (by omega))]
          exact z_some (Or.inr ⟨rfl, hJ⟩)
      obtain ⟨u, e, q⟩ := k2
      rw [nI_0] at e
      rw [e]
      rcases q with ⟨rfl, q⟩ | ⟨rfl, q⟩
      · exact ⟨_, rfl, Or.inl ⟨rfl, q⟩⟩
      · show z_ok (lp_Or_isThere_2 107 M f (nI c + 1)) _
        rw [nI_1]
        exact k (fun i w hi' hw' => by
          by_cases e : i = c
          · subst e; exact q w hw'
          · exact hI i w (by omega) hw')
    · intro f hI
      show z_ok (lp_Or_isThere_2 _ _ _ _) _
      rw [lp_Or_isThere_2, if_neg (by decide)]
      exact z_some (Or.inr ⟨rfl, fun ⟨i, w, h1, h2, h3⟩ => hI i w h1 h2 h3⟩)
  obtain ⟨u, e, q⟩ := key
  rw [show (0 : Int32) = nI 0 from rfl, e]
  rcases q with ⟨rfl, q⟩ | ⟨rfl, q⟩
  · exact ⟨_, rfl, Or.inl ⟨rfl, q⟩⟩
  · exact ⟨_, rfl, Or.inr ⟨rfl, q⟩⟩
/-- the outcome of a NAME: it is one (0), or its FAULT -/
def z_nx (T : Nat → Nat) (n b : Nat) (A : ZA) (nm : Nat → Nat → Nat) (f p : Nat) : Prop :=
  ((z_so T n b ≠ 1 ∨ z_anyw T n b z_OW) ∧ f = 1 ∧ p = z_sk T n b) ∨
  (z_so T n b = 1 ∧ ¬ z_anyw T n b z_OW ∧ 6 < z_en T n b - z_sk T n b ∧ f = 1 ∧ p = z_sk T n b + 6) ∨
  (z_so T n b = 1 ∧ ¬ z_anyw T n b z_OW ∧ z_en T n b - z_sk T n b ≤ 6 ∧ z_thr A nm (z_nl T n b) ∧ f = 3 ∧ p = z_sk T n b)
def z_ny (T : Nat → Nat) (n b : Nat) (A : ZA) (nm : Nat → Nat → Nat) : Prop := z_so T n b = 1 ∧ ¬ z_anyw T n b z_OW ∧ z_en T n b - z_sk T n b ≤ 6 ∧ ¬ z_thr A nm (z_nl T n b)
theorem z_nx_f {f p f' p' : Nat} (h : z_nx T n b A nm f p) (k : z_nx T n b A nm f' p') : f = f' ∧ p = p' := by
  rcases h with ⟨h1, h2, h3⟩ | ⟨h0, h1, h2, h3, h4⟩ | ⟨h0, h1, h2, h3, h4, h5⟩ <;> rcases k with ⟨k1, k2, k3⟩ | ⟨k0, k1, k2, k3, k4⟩ | ⟨k0, k1, k2, k3, k4, k5⟩
  all_goals first | omega | (rcases h1 with h1 | h1 <;> first | exact absurd k0 h1 | exact absurd h1 k1) | (rcases k1 with k1 | k1 <;> first | exact absurd h0 k1 | exact absurd k1 h1)
theorem z_nx_y {f p : Nat} (h : z_nx T n b A nm f p) (k : z_ny T n b A nm) : False := by
  obtain ⟨k0, k1, k2, k3⟩ := k
  rcases h with ⟨h1, h2, h3⟩ | ⟨h0, h1, h2, h3, h4⟩ | ⟨h0, h1, h2, h3, h4, h5⟩
  · rcases h1 with h1 | h1
    · exact h1 k0
    · exact k1 h1
  · omega
  · exact k3 h3
theorem z_ix_lt : ∀ (ws : List (List Nat)) (v : Nat), z_ix T n b ws = some v → v < ws.length := by
  intro ws
  induction ws with
  | nil => intro v h; exact nomatch h
  | cons w ws ih =>
    intro v h
    unfold z_ix at h
    split at h
    · cases h; exact Nat.succ_pos _
    · cases e : z_ix T n b ws with
      | none => rw [e] at h; exact nomatch h
      | some u => rw [e] at h; cases h; have := ih u e; show u + 1 < ws.length + 1; omega
theorem c_own0 (hw : z_wt n T) (hb : b ≤ n) (hD : z_RD T n b M) (h : ¬ z_anyw T n b z_OW) : f_Re_wordAmong 3 1003 M = some (-1) := by
  rw [c_own hw hb hD, z_ix_any.mpr h]
theorem c_own1 (hw : z_wt n T) (hb : b ≤ n) (hD : z_RD T n b M) (h : z_anyw T n b z_OW) : ∃ i, i < 2 ^ 31 ∧ f_Re_wordAmong 3 1003 M = some (nI i) := by
  cases e : z_ix T n b z_OW with
  | none => exact absurd h (z_ix_any.mp e)
  | some v =>
    refine ⟨v, ?_, ?_⟩
    · have h1 := z_ix_lt _ _ e
      have h2 : z_OW.length = 17 := by decide
      omega
    · rw [c_own hw hb hD, e]
theorem c_nameW {R i d : Nat} {M : SM} (hR : R = 7 ∨ R = 57) (hj : jop (M.1 107 2) = R) (hD : z_RD T n b M) (hrow : 8 * i + d < 24) :
    z_ok (lp_Or_takeName_99 107 (nI (8 * i + d)) jfuel 0 M) (fun M' => z_Fr (fun j => j ≠ R + 6 + (8 * i + d)) M M' ∧ ∀ k, k < 6 → M'.1 (R + 6 + (8 * i + d)) k = nI (z_lt0 T n b k)) := by
  rw [← nI_0]
  refine z_loop (fun f k M' => lp_Or_takeName_99 107 (nI (8 * i + d)) f k M') (fun c M' => z_Fr (fun j => j ≠ R + 6 + (8 * i + d)) M M' ∧ ∀ k, k < c → M'.1 (R + 6 + (8 * i + d)) k = nI (z_lt0 T n b k)) _ 6 ?_ ?_ jfuel 0 M (by decide) (by rw [z_jf]; decide) ⟨z_Fr.rf, fun k h => by omega⟩
  · intro f c M' hc hI k
    show z_ok (lp_Or_takeName_99 _ _ _ _ _) _
    have f107 : M'.1 107 2 = M.1 107 2 := by rw [hI.1.1 107 (by rcases hR with rfl | rfl <;> omega)]
    rw [lp_Or_takeName_99, jp_107_0, jp_3_2, zl_6, if_pos (nI_lt hc (by decide)), z_at jl_4 (by omega) (by decide)]
    simp only [Option.bind_some]
    rw [f107, hj, jo_9 hR, zqo_5 hR _ hrow hc]
    simp only [Option.bind_some]
    rw [nI_1]
    refine k _ ⟨hI.1.sI (by omega), fun j hj' => ?_⟩
    by_cases e : j = c
    · subst e
      rw [z_sIs, hI.1.1 4 (by omega)]
      exact hD.2.2.2 j (by omega)
    · rw [z_sIk _ _ _ _ e]; exact hI.2 j (by omega)
  · intro f M' hI
    show z_ok (lp_Or_takeName_99 _ _ _ _ _) _
    rw [lp_Or_takeName_99, if_neg (by decide)]
    exact z_some hI
theorem c_name (hR : R = 7 ∨ R = 57) (hj : jop (M.1 107 2) = R) (hO : z_OC R A M) (hn : z_nC R A nm M) (hw : z_wt n T) (hT : z_tc n T M) (hb : b ≤ n) (hD : z_RD T n b M) (hk : z_nk A nm) (h8 : z_nA A) {i : Nat} (hi : i < 3) (hf : A 0 (3 + i) < 8) :
    z_ok (f_Or_takeName 107 (nI i) M) (fun r => (z_ny T n b A nm ∧ r.1 = 1 ∧ z_RD T n (z_en T n b) r.2 ∧ z_SF M r.2 ∧ z_Fr (fun j => j ≠ 3 ∧ j ≠ 4 ∧ j ≠ R + 6 + (8 * i + A 0 (3 + i))) M r.2 ∧ (∀ k, k < 6 → r.2.1 (R + 6 + (8 * i + A 0 (3 + i))) k = nI (if z_nl T n b k = 0 then 0 else z_nl T n b k + 96))) ∨ (∃ f p, z_nx T n b A nm f p ∧ 0 < f ∧ f < 100 ∧ r.1 = 0 ∧ z_CF f p r.2 ∧ z_RE M r.2)) := by
  have hlen : f_Re_length 3 M = some (nI (z_en T n b - z_sk T n b)) := by
    unfold f_Re_length
    rw [hD.2.2.1, hD.2.1, z_sub (z_en_s (T := T) hb).1]
  have hn2 := hw.1
  have hsk := z_sk_s (T := T) hb
  have hen := z_en_s (T := T) hb
  unfold f_Or_takeName
  rw [jp_107_0]
  have e1 : f_Re_isSomeWord 3 M = some (if z_so T n b = 1 then 1 else 0) := by
    unfold f_Re_isSomeWord
    rw [hD.1]
    by_cases c : z_so T n b = 1
    · rw [if_pos c, c, if_pos (show nI 1 = 1 from rfl)]
    · rw [if_neg c, if_neg (fun (e : nI (z_so T n b) = 1) => c ((nI_eq (b := 1) (by have := @z_so_4 T n b; omega) (by decide)).mp e))]
  rw [e1]
  simp only [Option.bind_some]
  rw [z_if01]
  by_cases c1 : z_so T n b = 1
  · rw [if_pos c1]
    by_cases c2 : z_anyw T n b z_OW
    · obtain ⟨i', hi', ei⟩ := c_own1 hw hb hD c2
      rw [ei]
      simp only [Option.bind_some]
      refine z_neg (z_n0 hi') ?_
      rw [c_refuse]
      refine z_eq rfl (z_eq (z_bchk (Or.inl rfl)) (z_some (Or.inr ⟨1, z_sk T n b, Or.inl ⟨Or.inr c2, rfl, rfl⟩, by decide, by decide, rfl, ?_, z_RE.rf.f.f⟩)))
      rw [hD.2.1]; exact z_CF.mk 1 _
    · rw [c_own0 hw hb hD c2]
      simp only [Option.bind_some]
      refine z_pos (by decide) ?_
      rw [hlen, zl_6]
      simp only [Option.bind_some]
      by_cases c3 : 6 < z_en T n b - z_sk T n b
      · refine z_pos (nI_lt c3 (by omega)) ?_
        rw [hD.2.1, nI_add]
        exact z_eq rfl (z_eq (z_bchk (Or.inl rfl)) (z_some (Or.inr ⟨1, z_sk T n b + 6, Or.inr (Or.inl ⟨c1, c2, c3, rfl, rfl⟩), by decide, by decide, rfl, z_CF.mk 1 _, z_RE.rf.f.f⟩)))
      · refine z_neg (nI_nlt (a := 6) (b := z_en T n b - z_sk T n b) (by omega) (by decide)) ?_
        refine z_bind (c_isThere hR hj hO hn hw c1 (by omega) hb hD hk h8) fun v hv => ?_
        rcases hv with ⟨rfl, v2⟩ | ⟨rfl, v2⟩
        · refine z_neg (by decide) ?_
          rw [hD.2.1]
          exact z_eq rfl (z_eq (z_bchk (Or.inl rfl)) (z_some (Or.inr ⟨3, z_sk T n b, Or.inr (Or.inr ⟨c1, c2, by omega, v2, rfl, rfl⟩), by decide, by decide, rfl, z_CF.mk 3 _, z_RE.rf.f.f⟩)))
        · refine z_pos rfl ?_
          rw [hj]
          refine z_eq (c_named hR hO hi) ?_
          have e : f_Sp_nameRow (nI i) (nI (A 0 (3 + i))) = some (nI (8 * i + A 0 (3 + i))) := by
            unfold f_Sp_nameRow
            rw [zl_8, pk_mul, nI_add, Nat.mul_comm]
          refine z_eq e ?_
          have hrow : 8 * i + A 0 (3 + i) < 24 := by omega
          refine z_bind (c_nameW hR hj hD hrow) fun M' hM' => ?_
          have hT' : z_tc n T M' := hT.fr (hM'.1.1 1 (by omega)) (hM'.1.1 2 (by omega))
          have hD' : z_RD T n b M' := hD.fr (hM'.1.1 3 (by omega)) (hM'.1.1 4 (by omega))
          refine z_bind (c_next hw hT' hb hD') fun M2 hM2 => z_some (Or.inl ⟨⟨c1, c2, by omega, v2⟩, rfl, hM2.1, ⟨hM2.2.2.1.trans (by rw [hM'.1.1 3 (by omega)]), hM2.2.2.2.trans (by rw [hM'.1.1 3 (by omega)])⟩, (hM'.1.wk (fun j q => q.2.2)).tr (hM2.2.1.wk (fun j q => ⟨q.1, q.2.1⟩)), fun k hk' => ?_⟩)
          rw [hM2.2.1.1 _ (by omega), hM'.2 k hk', (z_nl_c hw c1 (by omega) hb k).1]
  · rw [if_neg c1, c_refuse]
    refine z_eq rfl (z_eq (z_bchk (Or.inl rfl)) (z_some (Or.inr ⟨1, z_sk T n b, Or.inl ⟨Or.inl c1, rfl, rfl⟩, by decide, by decide, rfl, ?_, z_RE.rf.f.f⟩)))
    rw [hD.2.1]; exact z_CF.mk 1 _
end
