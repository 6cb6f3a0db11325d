/-! ===== pure: ask, both ===== -/
def y_w6 : List (Nat × List Nat) := [(68, [102, 105, 114, 115, 116]), (69, [108, 97, 115, 116]), (70, [111, 102, 116, 101, 110]), (71, [116, 111, 116, 97, 108]), (72, [109, 111, 115, 116]), (73, [108, 101, 97, 115, 116])]
def y_AF (N N' : SM) : Prop := (∀ i, i ≠ 366 → i ≠ 426 → i ≠ 427 → N'.1 i = N.1 i) ∧ (∀ k, ¬ (1 ≤ k ∧ k ≤ 9) → k ≠ 27 → (k < 89 ∨ 97 < k) → N'.1 366 k = N.1 366 k) ∧ (∀ i, i ≠ 428 → i ≠ 366 → N'.2 i = N.2 i) ∧ ∀ k, k ≠ 96 → N'.2 366 k = N.2 366 k
def y_aX (q2 : Int32 × SM) : Option SM := (if (q2.2.1 366 5) = 0 then (if q2.1 < 3 then ((f_Mo_qTest 366 q2.2).bind fun q6 => some q6) else (if (q2.2.1 366 5) = 0 then ((f_Mo_qSums 366 q2.2).bind fun q8 => some q8) else (some q2.2))) else (if (q2.2.1 366 5) = 0 then ((f_Mo_qSums 366 q2.2).bind fun q10 => some q10) else (some q2.2)) : Option (SM))
def y_aY (q3 : SM) : Option SM := (if (q3.1 366 5) = 0 then ((f_Mo_look 366 q3).bind fun q13 => if q13.1 = (-1) then (some q13.2) else ((f_Mo_fail 366 1 (q13.2.1 366 2) q13.2).bind fun q15 => some q15)) else (some q3) : Option (SM))
def y_aZ (c : Int32) (q11 : SM) : Option (Int64 × SM) := if ((sI (sI q11 366 7 (q11.1 366 5)) 366 8 ((sI q11 366 7 (q11.1 366 5)).1 366 6)).1 366 5) = 0 then ((if c < 2 then (some (-1)) else (some 0) : Option (Int64)).bind fun q17 => (lp_Mo_ask_178 366 c jfuel 0 (sI (sL (sI (sI q11 366 7 (q11.1 366 5)) 366 8 ((sI q11 366 7 (q11.1 366 5)).1 366 6)) 366 96 q17) 366 97 1)).bind fun q22 => some (q22.2 366 96, q22)) else (some ((-1000000000000000), sI (sI q11 366 7 (q11.1 366 5)) 366 8 ((sI q11 366 7 (q11.1 366 5)).1 366 6)))
def y_a0 (N : SM) : SM := sI (sI (sI (sI (sI (sI (sI (sI (sI (sI N 366 3 (N.1 366 1)) 366 1 0) 366 2 0) 366 4 (-1)) 366 5 0) 366 6 (-1)) 366 89 0) 366 91 0) 366 92 0) 366 93 0
section
variable {T : Nat → Nat} {n b a o u hn : Nat} {A : ZA} {nm : Nat → Nat → Nat} {P : ZP} {G : Nat → ZP} {M N M' N' N'' : SM}
theorem y_AF.tr (h : y_AF N N') (k : y_AF N' N'') : y_AF N N'' := ⟨fun i a b c => (k.1 i a b c).trans (h.1 i a b c), fun i a b c => (k.2.1 i a b c).trans (h.2.1 i a b c), fun i a b => (k.2.2.1 i a b).trans (h.2.2.1 i a b), fun i a => (k.2.2.2 i a).trans (h.2.2.2 i a)⟩
theorem y_AF.rf : y_AF N N := ⟨fun _ _ _ _ => rfl, fun _ _ _ _ => rfl, fun _ _ _ => rfl, fun _ _ => rfl⟩
theorem y_AF.s {k : Nat} {v : Int32} (h : y_AF N N') (hk : (1 ≤ k ∧ k ≤ 9) ∨ (89 ≤ k ∧ k ≤ 97)) : y_AF N (sI N' 366 k v) := ⟨fun i a b c => by rw [z_sIa _ _ _ _ a]; exact h.1 i a b c, fun j a b c => by rw [z_sIk _ _ _ _ (by omega)]; exact h.2.1 j a b c, h.2.2.1, h.2.2.2⟩
theorem y_AF.l {x : Int64} (h : y_AF N N') : y_AF N (sL N' 366 96 x) := ⟨h.1, h.2.1, fun i a b => by
  rw [← h.2.2.1 i a b]; funext j; exact (z_sL _ _ _ _ _ _).trans (if_neg b), fun k a => by
  rw [← h.2.2.2 k a]; exact (z_sL _ _ _ _ _ _).trans (by rw [if_pos rfl, if_neg a])⟩
theorem y_X.af (h : y_X N N') : y_AF N N' := ⟨fun i a b c => h.1.1 i ⟨a, b, c⟩, fun k a b c => h.2 k (by omega), fun i _ _ => by rw [h.1.2], fun k _ => by rw [h.1.2]⟩
theorem y_Z2.af (h : y_Z2 N N') : y_AF N N' := ⟨fun i a _ _ => h.1 i a, fun k a b c => h.2.1 k (by omega) (by omega), h.2.2.1, h.2.2.2⟩
theorem y_a0_af : y_AF N (y_a0 N) := (((((((((y_AF.rf.s (by omega)).s (by omega)).s (by omega)).s (by omega)).s (by omega)).s (by omega)).s (by omega)).s (by omega)).s (by omega)).s (by omega)
theorem z_MB.af (h : z_MB A nm P N) (x : y_AF N N') : z_MB A nm P N' := by
  obtain ⟨h1, h2, h3, h4, h5⟩ := h
  exact ⟨h1.fr (x.2.1 31 (by omega) (by omega) (by omega)) (fun i a b c => x.1 i (by omega) (by omega) (by omega)), h2.fr (x.1 391 (by omega) (by omega) (by omega)), fun q => (h3 q).fr (fun i a b => x.1 i (by omega) (by omega) (by omega)), ⟨(x.2.1 47 (by omega) (by omega) (by omega)).trans h4.1, (x.2.1 48 (by omega) (by omega) (by omega)).trans h4.2.1, (x.2.1 50 (by omega) (by omega) (by omega)).trans h4.2.2⟩, fun i w hi hw => by rw [x.2.2.1 386 (by decide) (by decide)]; exact h5 i w hi hw⟩
theorem z_HR.af (h : z_HR u G hn N) (x : y_AF N N') : z_HR u G hn N' := h.fr (x.2.1 63 (by omega) (by omega) (by omega)) (x.2.1 64 (by omega) (by omega) (by omega)) (x.1 404 (by omega) (by omega) (by omega))
theorem z_KW.af (h : z_KW N) (x : y_AF N N') : z_KW N' := h.fr (fun i i1 i2 i3 => x.1 i (by omega) (by omega) (by omega))
theorem m_ask_e (h : ¬ N.1 366 31 = 0) : f_Mo_ask 366 N = (f_Mo_qKind 366 (y_a0 N)).bind fun q2 => (y_aX q2).bind fun q3 => (y_aY q3).bind fun q11 => y_aZ q2.1 q11 := by
  unfold f_Mo_ask
  rw [if_neg h]; rfl
def y_kin (N : SM) : Option (Int32 × SM) := (f_Mo_takes 366 (jpf 366 68) N).bind fun q1 => (if q1.1 = 0 then ((f_Mo_takes 366 (jpf 366 69) q1.2).bind fun q4 => if q4.1 = 0 then ((f_Mo_takes 366 (jpf 366 70) q4.2).bind fun q6 => if q6.1 = 0 then ((f_Mo_takes 366 (jpf 366 71) q6.2).bind fun q8 => if q8.1 = 0 then ((f_Mo_takes 366 (jpf 366 72) q8.2).bind fun q10 => if q10.1 = 0 then (some (5, q10.2)) else (some (4, q10.2))) else (some (3, q8.2))) else (some (2, q6.2))) else (some (1, q4.2))) else (some (0, q1.2)) : Option (Int32 × SM))
theorem m_kin_e : f_Mo_qKind 366 N = (y_kin N).bind fun q2 => if q2.1 = 5 then ((f_Mo_asks 366 (jpf 366 73) q2.2).bind fun q13 => some (q2.1, q13)) else (some (q2.1, q2.2)) := by
  unfold f_Mo_qKind y_kin
  rw [Option.bind_assoc]
theorem m_kind (hw : z_wt n T) (hm : z_mb T n b) (h : z_RF T n b a N) (hK : z_KW N) : z_ok (f_Mo_qKind 366 N) (fun r => z_LX N r.2 ∧ ((∃ i, i < 6 ∧ z_ix T n b (y_w6.map (·.2)) = some i ∧ r.1 = nI i ∧ z_RF T n (z_en T n b) (z_en T n b) r.2) ∨ (z_ix T n b (y_w6.map (·.2)) = none ∧ z_MF 1 (z_sk T n b) r.2))) := by
  rw [m_kin_e]
  refine z_bind (P := fun r => z_LX N r.2 ∧ ((∃ i, i < 5 ∧ z_ix T n b (y_w6.map (·.2)) = some i ∧ r.1 = nI i ∧ z_RF T n (z_en T n b) (z_en T n b) r.2) ∨ (z_ix T n b (y_w6.map (·.2)) = (if z_is T n b [108, 101, 97, 115, 116] then some 5 else none) ∧ r.1 = nI 5 ∧ z_RF T n b (z_sk T n b) r.2))) ?_ (fun r hr => ?_)
  · unfold y_kin
    refine t_tk (p := (68, [102, 105, 114, 115, 116])) (by decide) hw hm h hK (fun s q r x => z_neg z_10 (z_some ⟨x, Or.inl ⟨0, by decide, ?_, rfl, r⟩⟩)) (fun s1 q1 r1 x1 => z_pos rfl ?_)
    · simp only [y_w6, List.map, z_ix, if_pos s]
    refine t_tk (p := (69, [108, 97, 115, 116])) (by decide) hw hm r1 (hK.lx x1) (fun s q r x => z_neg z_10 (z_some ⟨x1.tr x, Or.inl ⟨1, by decide, ?_, rfl, r⟩⟩)) (fun s2 q2 r2 x2 => z_pos rfl ?_)
    · simp only [y_w6, List.map, z_ix, if_neg s1, if_pos s]; rfl
    have x2 := x1.tr x2
    refine t_tk (p := (70, [111, 102, 116, 101, 110])) (by decide) hw hm r2 (hK.lx x2) (fun s q r x => z_neg z_10 (z_some ⟨x2.tr x, Or.inl ⟨2, by decide, ?_, rfl, r⟩⟩)) (fun s3 q3 r3 x3 => z_pos rfl ?_)
    · simp only [y_w6, List.map, z_ix, if_neg s1, if_neg s2, if_pos s]; rfl
    have x3 := x2.tr x3
    refine t_tk (p := (71, [116, 111, 116, 97, 108])) (by decide) hw hm r3 (hK.lx x3) (fun s q r x => z_neg z_10 (z_some ⟨x3.tr x, Or.inl ⟨3, by decide, ?_, rfl, r⟩⟩)) (fun s4 q4 r4 x4 => z_pos rfl ?_)
    · simp only [y_w6, List.map, z_ix, if_neg s1, if_neg s2, if_neg s3, if_pos s]; rfl
    have x4 := x3.tr x4
    refine t_tk (p := (72, [109, 111, 115, 116])) (by decide) hw hm r4 (hK.lx x4) (fun s q r x => z_neg z_10 (z_some ⟨x4.tr x, Or.inl ⟨4, by decide, ?_, rfl, r⟩⟩)) (fun s5 q5 r5 x5 => z_pos rfl (z_some ⟨x4.tr x5, Or.inr ⟨?_, rfl, r5⟩⟩))
    · simp only [y_w6, List.map, z_ix, if_neg s1, if_neg s2, if_neg s3, if_neg s4, if_pos s]; rfl
    · simp only [y_w6, List.map, z_ix, if_neg s1, if_neg s2, if_neg s3, if_neg s4, if_neg s5]
      by_cases s6 : z_is T n b [108, 101, 97, 115, 116]
      · rw [if_pos s6, if_pos s6]; rfl
      · rw [if_neg s6, if_neg s6]; rfl
  · obtain ⟨k, N1⟩ := r
    obtain ⟨x1, hr⟩ := hr
    have x1 : z_LX N N1 := x1
    rcases hr with ⟨i, i5, e, ek, r1⟩ | ⟨e, ek, r1⟩
    · have ek : k = nI i := ek
      rw [ek, if_neg (fun (q : nI i = 5) => by have := (nI_eq (b := 5) (by omega) (by decide)).mp q; omega)]
      exact z_some ⟨x1, Or.inl ⟨i, by omega, e, rfl, r1⟩⟩
    · have ek : k = nI 5 := ek
      rw [ek, if_pos (show nI 5 = 5 from rfl)]
      refine z_bind (y_asks (p := (73, [108, 101, 97, 115, 116])) (by decide) hw hm r1 (hK.lx x1)) (fun N2 k2 => z_some ⟨x1.tr k2.1, ?_⟩)
      rcases k2.2 with ⟨s, r⟩ | ⟨s, mf⟩
      · exact Or.inl ⟨5, by decide, by rw [e]; exact if_pos s, rfl, r⟩
      · exact Or.inr ⟨by rw [e]; exact if_neg s, mf⟩
theorem c_asked (hw : z_wt n T) (hb : b ≤ n) (hD : z_RD T n b M) : f_Re_wordAmong 3 1011 M = some (y_w (z_ix T n b (y_w6.map (·.2)))) := by
  rw [c_among hw hb hD (a := 1011) (ws := y_w6.map (·.2)) (by decide +kernel) (by decide +kernel) (by decide +kernel) (by decide +kernel)]
  cases z_ix T n b (y_w6.map (·.2)) <;> rfl
theorem y_a0_rf (k : z_tm n T N) : z_RF T n 0 0 (y_a0 N) := by
  refine ⟨?_, Nat.le_refl _, Nat.zero_le _, ?_, Or.inr ⟨fun h => absurd h.1 (by decide), Or.inl ?_⟩, ?_, ?_, fun j hj => ?_⟩
  · unfold y_a0; repeat (first | rw [z_sIs] | rw [z_sIk _ _ _ _ (by decide)])
    rfl
  · unfold y_a0
    rw [z_sIk _ _ _ _ (by decide), z_sIk _ _ _ _ (by decide), z_sIk _ _ _ _ (by decide), z_sIk _ _ _ _ (by decide), z_sIk _ _ _ _ (by decide), z_sIk _ _ _ _ (by decide), z_sIk _ _ _ _ (by decide), z_sIk _ _ _ _ (by decide), z_sIk _ _ _ _ (by decide), z_sIs]
    exact k.1
  · unfold y_a0
    rw [z_sIk _ _ _ _ (by decide), z_sIk _ _ _ _ (by decide), z_sIk _ _ _ _ (by decide), z_sIk _ _ _ _ (by decide), z_sIk _ _ _ _ (by decide), z_sIk _ _ _ _ (by decide), z_sIs]
  · unfold y_a0
    rw [z_sIk _ _ _ _ (by decide), z_sIk _ _ _ _ (by decide), z_sIk _ _ _ _ (by decide), z_sIk _ _ _ _ (by decide), z_sIk _ _ _ _ (by decide), z_sIs]
  · unfold y_a0
    rw [z_sIk _ _ _ _ (by decide), z_sIk _ _ _ _ (by decide), z_sIk _ _ _ _ (by decide), z_sIk _ _ _ _ (by decide), z_sIs]
  · rw [y_a0_af.1 367 (by decide) (by decide) (by decide)]; exact k.2 j hj
theorem y_a0_m : y_M 0 0 [] [] (y_a0 N) := by
  refine ⟨?_, trivial, ?_, trivial, z_sIs _ _ _ _, ?_⟩
  · unfold y_a0; rw [z_sIk _ _ _ _ (by decide), z_sIk _ _ _ _ (by decide), z_sIs]; rfl
  · unfold y_a0; rw [z_sIk _ _ _ _ (by decide), z_sIk _ _ _ _ (by decide), z_sIk _ _ _ _ (by decide), z_sIs]; rfl
  · unfold y_a0; rw [z_sIk _ _ _ _ (by decide), z_sIs]; rfl
theorem y_a0_1 : (y_a0 N).1 366 1 = 0 := by
  unfold y_a0
  rw [z_sIk _ _ _ _ (by decide), z_sIk _ _ _ _ (by decide), z_sIk _ _ _ _ (by decide), z_sIk _ _ _ _ (by decide), z_sIk _ _ _ _ (by decide), z_sIk _ _ _ _ (by decide), z_sIk _ _ _ _ (by decide), z_sIk _ _ _ _ (by decide), z_sIs]
/-- how it ends with a FAULT, or without -/
theorem y_aZ_f {c : Int32} (h : ¬ N.1 366 5 = 0) : ∃ N', y_aZ c N = some ((-1000000000000000), N') ∧ y_AF N N' ∧ N'.1 366 7 = N.1 366 5 ∧ N'.1 366 8 = N.1 366 6 ∧ N'.1 366 1 = N.1 366 1 := by
  unfold y_aZ
  rw [if_neg (by rw [z_sIk _ _ _ _ (by decide), z_sIk _ _ _ _ (by decide)]; exact h)]
  refine ⟨_, rfl, (y_AF.rf.s (by omega)).s (by omega), ?_, ?_, ?_⟩
  · rw [z_sIk _ _ _ _ (by decide), z_sIs]
  · rw [z_sIs, z_sIk _ _ _ _ (by decide)]
  · rw [z_sIk _ _ _ _ (by decide), z_sIk _ _ _ _ (by decide)]
theorem y_aZ_ok {kind : Nat} {v : Nat → Int32} {D : List Nat} (hW : z_WB A nm P) (h00 : 0 < A 0 0) (hM : z_MB A nm P N) (hk : kind < 6) (h01 : kind < 3 → ∀ i, i < 61 → y_01 (v i)) (h89 : N.1 366 89 = nI D.length) (hD : y_st 426 D N) (hl : D.length < 1690) (hP : y_P A (r_v A (z_pa P)) D v) (h5 : N.1 366 5 = 0) :
    ∃ N', y_aZ (nI kind) N = some (y_an kind v 61, N') ∧ y_AF N N' ∧ N'.1 366 7 = N.1 366 5 ∧ N'.1 366 8 = N.1 366 6 ∧ N'.1 366 1 = N.1 366 1 := by
  unfold y_aZ
  rw [if_pos (by rw [z_sIk _ _ _ _ (by decide), z_sIk _ _ _ _ (by decide)]; exact h5)]
  have e2 : (if nI kind < 2 then (some (-1)) else (some 0) : Option (Int64)) = some (if kind < 2 then -1 else 0) := by
    by_cases c : kind < 2
    · rw [if_pos (show nI kind < 2 from nI_lt (b := 2) c (by decide)), if_pos c]
    · rw [if_neg (show ¬ nI kind < 2 from nI_nlt (b := 2) (by omega) (by omega)), if_neg c]
  rw [e2]
  simp only [Option.bind_some]
  generalize hN1 : sI (sL (sI (sI N 366 7 (N.1 366 5)) 366 8 ((sI N 366 7 (N.1 366 5)).1 366 6)) 366 96 (if kind < 2 then -1 else 0)) 366 97 1 = N1
  have af : y_AF N N1 := by rw [← hN1]; exact ((((y_AF.rf.s (by omega)).s (by omega)).l).s (by omega))
  have g : ∀ k, k ≠ 7 → k ≠ 8 → k ≠ 97 → N1.1 366 k = N.1 366 k := fun k a b c => by
    rw [← hN1, z_sIk _ _ _ _ c]
    show (sI (sI N 366 7 (N.1 366 5)) 366 8 ((sI N 366 7 (N.1 366 5)).1 366 6)).1 366 k = _
    rw [z_sIk _ _ _ _ b, z_sIk _ _ _ _ a]
  have g0 : ∀ i, i ≠ 366 → N1.1 i = N.1 i := fun i a => by
    rw [← hN1, z_sIa _ _ _ _ a]
    show (sI (sI N 366 7 (N.1 366 5)) 366 8 ((sI N 366 7 (N.1 366 5)).1 366 6)).1 i = _
    rw [z_sIa _ _ _ _ a, z_sIa _ _ _ _ a]
  obtain ⟨N2, e3, a2, z2⟩ := m_answer hW h00 (hM.af af) hk h01 ((g 89 (by decide) (by decide) (by decide)).trans h89) (hD.fr (fun j _ => by rw [g0 426 (by decide)])) hl hP (by rw [← hN1, z_sI2, z_sLs]) (by rw [← hN1]; exact z_sIs _ _ _ _)
  rw [e3]
  refine ⟨N2, by simp only [Option.bind_some]; rw [a2], af.tr z2.af, ?_, ?_, ?_⟩
  · rw [z2.2.1 7 (by decide) (by decide), ← hN1, z_sIk _ _ _ _ (by decide)]
    show (sI (sI N 366 7 (N.1 366 5)) 366 8 ((sI N 366 7 (N.1 366 5)).1 366 6)).1 366 7 = _
    rw [z_sIk _ _ _ _ (by decide), z_sIs]
  · rw [z2.2.1 8 (by decide) (by decide), ← hN1, z_sIk _ _ _ _ (by decide)]
    show (sI (sI N 366 7 (N.1 366 5)) 366 8 ((sI N 366 7 (N.1 366 5)).1 366 6)).1 366 8 = _
    rw [z_sIs, z_sIk _ _ _ _ (by decide)]
  · rw [z2.2.1 1 (by decide) (by decide), g 1 (by decide) (by decide) (by decide)]
theorem g_askQ (hK : z_K o A nm P G hn M N) (hw : z_wt n T) (h : z_tc n T M) (k : z_tm n T N) (hKW : z_KW N) (ff : M.1 3 5 = N.1 366 7 ∧ M.1 3 6 = N.1 366 8) :
    ∃ v M' N', f_Sp_ask 0 M = some (v, M') ∧ f_Mo_ask 366 N = some (v, N') ∧ z_K o A nm P G hn M' N' ∧ z_tc 0 T M' ∧ z_tm 0 T N' ∧ (∀ i, i ≠ 1 → i ≠ 3 → i ≠ 4 → (i < 322 ∨ 363 < i) → M'.1 i = M.1 i) ∧ M'.2 = M.2 ∧ y_AF N N' ∧ M'.1 3 5 = N'.1 366 7 ∧ M'.1 3 6 = N'.1 366 8 := by
  obtain ⟨hW, hC, hM, hG0, hGW, hHC, hHR⟩ := hK
  have ho := hC.1
  have hA := hW.1.1
  have fin : ∀ {M' N' : SM}, (∀ i, i ≠ 1 → i ≠ 3 → i ≠ 4 → (i < 322 ∨ 363 < i) → M'.1 i = M.1 i) → y_AF N N' → z_K o A nm P G hn M' N' := fun {M' N'} f x =>
    ⟨hW, hC.kp hW (by rw [f 0 (by omega) (by omega) (by omega) (by omega)]) (fun i a b => f i (by omega) (by omega) (by omega) (by omega)) (fun i a b => f i (by omega) (by omega) (by omega) (by omega)), hM.af x, hG0, hGW, hHC.fr (fun i a b => f i (by omega) (by omega) (by omega) (by omega)), hHR.af x⟩
  unfold f_Sp_ask
  rw [hC.2.1, hC.2.2.1.1, jp_0_0, jp_0_1, jp_0_4]
  by_cases h0 : A 0 0 = 0
  · rw [h0, if_pos (show nI 0 = 0 from rfl)]
    have : f_Mo_ask 366 N = some ((-1000000000000000), sI N 366 1 0) := by
      unfold f_Mo_ask
      rw [hM.1.1, h0, if_pos (show nI 0 = 0 from rfl)]
    have fM : ∀ i, i ≠ 1 → i ≠ 3 → i ≠ 4 → (i < 322 ∨ 363 < i) → (sI M 1 1 0).1 i = M.1 i := fun i a _ _ _ => z_sIa _ _ _ _ a
    have fN : y_AF N (sI N 366 1 0) := y_AF.rf.s (by omega)
    refine ⟨_, _, _, rfl, this, fin fM fN, ⟨z_sIs _ _ _ _, fun j hj => by omega⟩, ⟨z_sIs _ _ _ _, fun j hj => by omega⟩, fM, rfl, fN, ?_, ?_⟩
    · rw [z_sIa _ _ _ _ (by decide), z_sIk _ _ _ _ (by decide)]; exact ff.1
    · rw [z_sIa _ _ _ _ (by decide), z_sIk _ _ _ _ (by decide)]; exact ff.2
  · have h00 : 0 < A 0 0 := Nat.pos_of_ne_zero h0
    have nz : ¬ nI (A 0 0) = 0 := nI_ne0 h00 (by omega)
    rw [if_neg nz, m_ask_e (by rw [hM.1.1]; exact nz)]
    obtain ⟨Mb, eb, rd, re, rb5, rb6⟩ := c_rbegin hw h
    rw [eb]
    simp only [Option.bind_some]
    rw [re.1 0 (by decide), hC.2.1]
    unfold f_Qu_answer
    generalize hM2 : sI (sI Mb 322 4 (jopn o)) 322 3 0 = M2
    have r2 : ∀ i, i ≠ 322 → M2.1 i = Mb.1 i := fun i a => by rw [← hM2, z_sIa _ _ _ _ a, z_sIa _ _ _ _ a]
    have rd2 : z_RD T n 0 M2 := rd.fr (r2 3 (by decide)) (r2 4 (by decide))
    have tc2 : z_tc n T M2 := (h.re re).fr (r2 1 (by decide)) (r2 2 (by decide))
    have f2 : ∀ i, i ≠ 3 → i ≠ 4 → i ≠ 322 → M2.1 i = M.1 i := fun i a b c => by rw [r2 i c, re.1 i ⟨a, b⟩]
    have m22 : M2.2 = M.2 := by rw [← hM2]; exact re.2
    have C2 : y_C o A nm P M2 := ⟨hC.kp hW (by rw [f2 0 (by omega) (by omega) (by omega)]) (fun i a b => f2 i (by omega) (by omega) (by omega)) (fun i a b => f2 i (by omega) (by omega) (by omega)), by
      rw [← hM2, z_sIk _ _ _ _ (by decide), z_sIs]; exact jop_n ho⟩
    have U2 : M2.1 322 3 = nI 0 := by rw [← hM2]; exact z_sIs _ _ _ _
    have sf2 : M2.1 3 5 = 0 ∧ M2.1 3 6 = -1 := by rw [r2 3 (by decide)]; exact ⟨rb5, rb6⟩
    have af0 := y_a0_af (N := N)
    obtain ⟨⟨kd, N1⟩, ek, x1, hk⟩ := m_kind hw z_mb0 (y_a0_rf k) (hKW.af af0)
    have x1 : z_LX (y_a0 N) N1 := x1
    have n11 : N1.1 366 1 = 0 := (x1.2 1 (by decide)).trans y_a0_1
    rw [jp_322_0, c_asked hw (Nat.zero_le _) rd2, ek]
    simp only [Option.bind_some]
    -- a FAULT
    have fault : ∀ {M3 N3 : SM} {c : Int32}, y_F 0 M2 M3 → y_X (y_a0 N) N3 → z_FF M3 N3 → ∃ N', y_aZ c N3 = some ((-1000000000000000), N') ∧ z_K o A nm P G hn (sI M3 1 1 0) N' ∧ z_tc 0 T (sI M3 1 1 0) ∧ z_tm 0 T N' ∧ (∀ i, i ≠ 1 → i ≠ 3 → i ≠ 4 → (i < 322 ∨ 363 < i) → (sI M3 1 1 0).1 i = M.1 i) ∧ (sI M3 1 1 0).2 = M.2 ∧ y_AF N N' ∧ (sI M3 1 1 0).1 3 5 = N'.1 366 7 ∧ (sI M3 1 1 0).1 3 6 = N'.1 366 8 := fun {M3 N3 c} F x ff3 => by
      obtain ⟨N', e, af, e7, e8, e1⟩ := y_aZ_f (c := c) ff3.bad
      have fM : ∀ i, i ≠ 1 → i ≠ 3 → i ≠ 4 → (i < 322 ∨ 363 < i) → (sI M3 1 1 0).1 i = M.1 i := fun i a b c d => by
        rw [z_sIa _ _ _ _ a, F.1.1 i ⟨b, c, by omega, by omega⟩, f2 i b c (by omega)]
      have fN : y_AF N N' := (af0.tr x.af).tr af
      obtain ⟨f, p, cf, _, _, mf⟩ := ff3
      refine ⟨N', e, fin fM fN, ⟨z_sIs _ _ _ _, fun j hj => by omega⟩, ⟨?_, fun j hj => by omega⟩, fM, ?_, fN, ?_, ?_⟩
      · rw [e1, x.2 1 (by decide)]; exact y_a0_1
      · show M3.2 = _
        rw [F.1.2, m22]
      · rw [z_sIa _ _ _ _ (by decide), e7, cf.1, mf.1]
      · rw [z_sIa _ _ _ _ (by decide), e8, cf.2, mf.2]
    have yb : ∀ {c : Int32} {N3 : SM}, ¬ N3.1 366 5 = 0 → ((y_aY N3).bind fun q11 => y_aZ c q11) = y_aZ c N3 := fun {c N3} hb => by
      unfold y_aY
      rw [if_neg hb]; rfl
    rcases hk with ⟨i, i6, ei, ekd, r1⟩ | ⟨ei, mf⟩
    · have ekd : kd = nI i := ekd
      have hso : z_so T n 0 = 1 := ((y_ixs ei).2).1
      have hen := z_en_s (T := T) (n := n) (b := 0) (Nat.zero_le _)
      have hlt := hen.2.2.1 (z_so_1 hso).1
      rw [ei, show y_w (some i) = nI i from rfl, if_neg (z_n0 (n := i) (by omega)), ekd]
      obtain ⟨M3, e3, d3, re3, sf3⟩ := c_next hw tc2 (Nat.zero_le _) rd2
      rw [e3]
      simp only [Option.bind_some]
      have U3 : M3.1 322 3 = nI 0 := by rw [re3.1 322 (by omega)]; exact U2
      have hI : y_I T n (z_en T n 0) o A nm P 0 0 0 [] [] M3 N1 := ⟨hen.2.2.2, d3, tc2.re re3, C2.f hW (u := 0) re3.yf, U3, ⟨_, r1⟩, (hKW.af af0).lx x1, y_a0_m.lx x1, by rw [List.length_nil]; omega⟩
      have run : ∃ r N3 yv, (if 2 < nI i then (((f_Qu_sum 40) 322 0 M3).bind fun q7 => some (q7.1, q7.2)) else (((f_Qu_test 40) 322 0 M3).bind fun q8 => some (q8.1, q8.2)) : Option (Int32 × SM)) = some r ∧ y_aX (nI i, N1) = some N3 ∧ (i < 3 → yv = y_01) ∧ y_end T n (z_en T n 0) A (r_v A (z_pa P)) 0 0 0 [] [] yv M3 N1 r N3 := by
        unfold y_aX
        rw [if_pos r1.2.2.2.2.2.1]
        by_cases c3 : i < 3
        · obtain ⟨r, N3, e4, e5, e6⟩ := g_test hw hW h00 hI
          rw [if_neg (show ¬ 2 < nI i from nI_nlt (a := 2) (b := i) (by omega) (by omega)), if_pos (show nI i < 3 from nI_lt (b := 3) c3 (by decide)), y_ob, e5]
          have e4 : f_Qu_test 40 322 0 M3 = some r := e4
          rw [e4]
          exact ⟨r, N3, y_01, rfl, rfl, fun _ => rfl, e6⟩
        · obtain ⟨r, N3, e4, e5, _, e6⟩ := g_sum hw hW h00 (by omega) hI (fun _ h => nomatch h) (by omega)
          rw [if_pos (show 2 < nI i from nI_lt (a := 2) (b := i) (by omega) (by omega)), if_neg (show ¬ nI i < 3 from nI_nlt (a := i) (b := 3) (by omega) (by omega)), if_pos r1.2.2.2.2.2.1, y_ob, e5]
          have e4 : f_Qu_sum 40 322 0 M3 = some r := e4
          rw [e4]
          exact ⟨r, N3, y_bn, rfl, rfl, fun q => absurd q c3, e6⟩
      obtain ⟨⟨w4, M4⟩, N3, yv, e4, e5, hyv, F4, x3, h4⟩ := run
      have F4 : y_F 0 M3 M4 := F4
      have FF4 : y_F 0 M2 M4 := re3.yf.tr F4
      have XX3 : y_X (y_a0 N) N3 := x1.yx.tr x3
      rw [e4, e5]
      simp only [Option.bind_some]
      rcases h4 with ⟨w41, b4, a4, D, v, lt, m4, d4, sf4, U4, R4, hb4, hY, r4, y4, len⟩ | ⟨w40, ff4⟩
      · have w41 : w4 = 1 := w41
        have d4 : z_RD T n b4 M4 := d4
        have sf4 : z_SF M3 M4 := sf4
        have R4 : y_R 0 v M4 := R4
        have bn4 := m4.1
        have hn' := hw.1
        rw [List.append_nil] at y4
        rw [w41, if_neg z_10]
        obtain ⟨⟨w5, M5⟩, e6, re5, h5⟩ := c_ended bn4 d4
        have re5 : z_RE M4 M5 := re5
        rw [e6]
        simp only [Option.bind_some]
        obtain ⟨⟨lv, N4⟩, e7, lv1, r5, x5⟩ := m_look hw bn4 r4
        have lv1 : lv = _ := lv1
        have r5 : z_RF T n b4 (z_sk T n b4) N4 := r5
        have x5 : z_LX N3 N4 := x5
        have lk := z_lk (T := T) (b := b4) hw bn4
        rw [← lv1] at lk
        have eY : y_aY N3 = if lv = (-1) then (some N4) else ((f_Mo_fail 366 1 (N4.1 366 2) N4).bind fun q15 => some q15) := by
          unfold y_aY
          rw [if_pos r4.2.2.2.2.2.1, e7]; rfl
        rw [eY]
        rcases h5 with ⟨s0, e8⟩ | ⟨s0, w50, cf⟩
        · have e8 : w5 = 1 ∧ M5 = M4 := ⟨congrArg Prod.fst e8, congrArg Prod.snd e8⟩
          obtain ⟨rfl, rfl⟩ := e8
          rw [if_neg z_10, if_pos (lk.mpr s0)]
          simp only [Option.bind_some]
          have y5 := y4.lx x5
          have af5 : y_AF N N4 := af0.tr (XX3.tr x5.yx).af
          obtain ⟨N', e9, af, q7, q8, q1⟩ := y_aZ_ok (kind := i) hW h00 (hM.af af5) i6 (fun q j hj => by have := hb4 j hj; rw [hyv q] at this; exact this) y5.2.2.1 y5.2.2.2.1 (by omega) hY r5.2.2.2.2.2.1
          have ct : (if 2 < nI i then ((f_Qu_tellSum 322 (nI i) M5).bind fun q13 => some (q13, M5)) else ((f_Qu_tellTest 322 (nI i) M5).bind fun q14 => some (q14, M5)) : Option (Int64 × SM)) = some (y_an i v 61, M5) := by
            by_cases c3 : i < 3
            · rw [if_neg (show ¬ 2 < nI i from nI_nlt (a := 2) (b := i) (by omega) (by omega)), c_tellTest R4 c3]; rfl
            · rw [if_pos (show 2 < nI i from nI_lt (a := 2) (b := i) (by omega) (by omega)), c_tellSum R4 (by omega) i6]; rfl
          rw [ct, e9]
          have fM : ∀ i, i ≠ 1 → i ≠ 3 → i ≠ 4 → (i < 322 ∨ 363 < i) → (sI M5 1 1 0).1 i = M.1 i := fun i a b c d => by
            rw [z_sIa _ _ _ _ a, FF4.1.1 i ⟨b, c, by omega, by omega⟩, f2 i b c (by omega)]
          have fN : y_AF N N' := af5.tr af
          refine ⟨_, _, N', rfl, rfl, fin fM fN, ⟨z_sIs _ _ _ _, fun j hj => by omega⟩, ⟨?_, fun j hj => by omega⟩, fM, ?_, fN, ?_, ?_⟩
          · rw [q1, x5.2 1 (by decide), XX3.2 1 (by decide)]; exact y_a0_1
          · show M5.2 = _
            rw [FF4.1.2, m22]
          · rw [z_sIa _ _ _ _ (by decide), q7, r5.2.2.2.2.2.1, sf4.1, sf3.1, sf2.1]
          · rw [z_sIa _ _ _ _ (by decide), q8, r5.2.2.2.2.2.2.1, sf4.2, sf3.2, sf2.2]
        · have w50 : w5 = 0 := w50
          have cf : z_CF 1 (z_sk T n b4) M5 := cf
          rw [w50, if_pos rfl, if_neg (fun e => s0 (lk.mp e)), r5.1, zl_1, m_fail r5.2.2.2.2.2.1]
          simp only [Option.bind_some]
          obtain ⟨N', e9, q⟩ := fault (c := nI i) (FF4.tr re5.yf) (XX3.tr x5.f.yx) (z_FF.mk1 cf (z_MF.mk (N := N4) 1 (z_sk T n b4)) (by decide) (by decide))
          rw [e9]
          exact ⟨_, _, N', rfl, rfl, q⟩
      · have w40 : w4 = 0 := w40
        have ff4 : z_FF M4 N3 := ff4
        rw [w40, if_pos rfl, yb ff4.bad]
        obtain ⟨N', e9, q⟩ := fault (c := nI i) FF4 XX3 ff4
        rw [e9]
        exact ⟨_, _, N', rfl, rfl, q⟩
    · have mf : z_MF 1 (z_sk T n 0) N1 := mf
      have bad := mf.bad (by decide) (by decide)
      rw [ei, show y_w none = -1 from rfl, if_pos (by decide), c_refuse]
      have aX : y_aX (kd, N1) = some N1 := by
        unfold y_aX
        rw [if_neg bad, if_neg bad]
      rw [aX]
      simp only [Option.bind_some]
      rw [yb bad]
      obtain ⟨N', e9, q⟩ := fault (c := kd) (M3 := sI (sI M2 3 5 1) 3 6 (M2.1 3 3)) (z_RE.rf.f.f : z_RE M2 _).yf x1.yx (z_FF.mk1 (f := 1) (p := z_sk T n 0) (by rw [rd2.2.1]; exact z_CF.mk 1 _) mf (by decide) (by decide))
      rw [e9]
      exact ⟨_, _, N', rfl, rfl, q⟩
end
