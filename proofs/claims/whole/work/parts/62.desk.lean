/-! ===== pure: a DESK told, both ===== -/
section
variable {T : Nat → Nat} {n b R : Nat} {A : ZA} {nm nm' : Nat → Nat → Nat} {P P' : ZP} {M N M1 N1 N2 M' N' : SM} {B : Nat → Nat} {c d : Nat}
theorem z_sI_cg {a k : Nat} {v : Int32} {j : Nat} (h : M.1 j = M'.1 j) : (sI M a k v).1 j = (sI M' a k v).1 j := by
  funext q
  rw [z_sI, z_sI, h]
theorem c_setPart (hR : R = 7 ∨ R = 57) (hd : d < 8) (hc : c ≤ 60) (h6 : ∀ k, k < c → M.1 6 k = nI (B k)) :
    z_ok (f_Pa_setPart (R + 39) (nI d) 6 (nI c) M) (fun M' => z_Fr (fun i => i ≠ R + 41 + d ∧ i ≠ R + 49) M M' ∧ M'.1 (R + 49) d = nI c ∧ (∀ e, e ≠ d → M'.1 (R + 49) e = M.1 (R + 49) e) ∧ ∀ k, k < c → M'.1 (R + 41 + d) k = nI (B k)) := by
  unfold f_Pa_setPart
  have lp : z_ok (lp_Pa_setPart_3 (R + 39) (nI d) 6 (nI c) jfuel 0 M) (fun M' => z_Fr (fun i => i ≠ R + 41 + d) M M' ∧ ∀ k, k < c → M'.1 (R + 41 + d) k = nI (B k)) := by
    rw [zl_0]
    refine z_loop (fun f k M' => lp_Pa_setPart_3 (R + 39) (nI d) 6 (nI c) f k M') (fun j M' => z_Fr (fun i => i ≠ R + 41 + d) M M' ∧ ∀ k, k < j → M'.1 (R + 41 + d) k = nI (B k)) _ c ?_ ?_ jfuel 0 M (Nat.zero_le _) (by rw [z_jf]; omega) ⟨z_Fr.rf, fun k h => by omega⟩
    · intro f j M' hj hI k
      show z_ok (lp_Pa_setPart_3 _ _ _ _ _ _ _) _
      rw [lp_Pa_setPart_3, if_pos (nI_lt hj (by omega)), za_6 _ (by omega), jo_39_0 hR]
      simp only [Option.bind_some]
      rw [zqo_40 hR _ hd (by omega), hI.1.1 6 (by omega), h6 j hj]
      simp only [Option.bind_some]
      rw [nI_1]
      refine k _ ⟨hI.1.sI (by omega), fun q hq => ?_⟩
      by_cases e : q = j
      · subst e; exact z_sIs _ _ _ _
      · rw [z_sIk _ _ _ _ e]; exact hI.2 q (by omega)
    · intro f M' hI
      show z_ok (lp_Pa_setPart_3 _ _ _ _ _ _ _) _
      rw [lp_Pa_setPart_3, if_neg (nI_nlt (Nat.le_refl _) (by omega))]
      exact z_some hI
  refine z_bind lp (fun M2 h2 => z_eq (c_setSize hR hd) (z_some ⟨(h2.1.wk (fun i q => q.1)).sI (by omega), z_sIs _ _ _ _, fun e he => ?_, fun k hk => ?_⟩))
  · rw [z_sIk _ _ _ _ he, h2.1.1 (R + 49) (by omega)]
  · rw [z_sIa _ _ _ _ (by omega)]; exact h2.2 k hk
theorem m_told92 (hd : d < 8) (hc : c ≤ 60) (h44 : N.1 366 44 = nI c) (h6 : ∀ k, k < c → N.1 397 k = nI (B k)) :
    z_ok (lp_Mo_deskTold_92 366 (nI d) jfuel 0 N) (fun N' => z_Fr (fun i => i ≠ 391) N N' ∧ (∀ k, k < c → N'.1 391 (61 * d + 1 + k) = nI (B k)) ∧ ∀ j, (j < 61 * d + 1 ∨ 61 * d + 1 + c ≤ j) → N'.1 391 j = N.1 391 j) := by
  rw [zl_0]
  refine z_loop (fun f k N' => lp_Mo_deskTold_92 366 (nI d) f k N') (fun j N' => z_Fr (fun i => i ≠ 391) N N' ∧ (∀ k, k < j → N'.1 391 (61 * d + 1 + k) = nI (B k)) ∧ ∀ q, (q < 61 * d + 1 ∨ 61 * d + 1 + j ≤ q) → N'.1 391 q = N.1 391 q) _ c ?_ ?_ jfuel 0 N (Nat.zero_le _) (by rw [z_jf]; omega) ⟨z_Fr.rf, fun k h => by omega, fun _ _ => rfl⟩
  · intro f j N' hj hI k
    show z_ok (lp_Mo_deskTold_92 _ _ _ _ _) _
    have e44 : N'.1 366 44 = nI c := by rw [hI.1.1 366 (by decide)]; exact h44
    rw [lp_Mo_deskTold_92, e44, if_pos (nI_lt hj (by omega)), jm_43, jm_36, zi_397 _ (by omega), hI.1.1 397 (by decide), h6 j hj]
    simp only [Option.bind_some]
    rw [show (61 : Int32) = nI 61 from rfl, z_mul, nI_1, z_add, zs_391 _ (by omega)]
    simp only [Option.bind_some]
    rw [nI_1]
    refine k _ ⟨hI.1.sI (by decide), fun q hq => ?_, fun q hq => ?_⟩
    · by_cases e : q = j
      · subst e; exact z_sIs _ _ _ _
      · rw [z_sIk _ _ _ _ (by omega)]; exact hI.2.1 q (by omega)
    · rw [z_sIk _ _ _ _ (by omega)]; exact hI.2.2 q (by omega)
  · intro f N' hI
    show z_ok (lp_Mo_deskTold_92 _ _ _ _ _) _
    have e44 : N'.1 366 44 = nI c := by rw [hI.1.1 366 (by decide)]; exact h44
    rw [lp_Mo_deskTold_92, e44, if_neg (nI_nlt (Nat.le_refl _) (by omega))]
    exact z_some hI
/-- the PART of a DESK, B -/
def z_Pd (P : ZP) (d c : Nat) (B : Nat → Nat) : ZP := (fun e => if e = d then c else P.1 e, fun e b => if e = d then B (b - 1) else P.2 e b)
theorem z_Pd_W {n : Nat} (h : z_WP n P) (hc : c ≤ 60) (hB : z_B3 B c) {m : Nat} (hm : ∀ e, e < m → e = d ∨ e < n) : z_WP m (z_Pd P d c B) := fun e he => by
  by_cases q : e = d
  · show (if e = d then c else _) ≤ 60 ∧ ∀ b, 1 ≤ b → b ≤ (if e = d then c else _) → (if e = d then B (b - 1) else _) ≤ 3
    rw [if_pos q]
    refine ⟨hc, fun b b1 b2 => ?_⟩
    rw [if_pos q]; exact hB _ (by omega) (by omega)
  · show (if e = d then c else P.1 e) ≤ 60 ∧ ∀ b, 1 ≤ b → b ≤ (if e = d then c else P.1 e) → (if e = d then B (b - 1) else P.2 e b) ≤ 3
    rw [if_neg q]
    refine ⟨(h e ((hm e he).resolve_left q)).1, fun b b1 b2 => ?_⟩
    rw [if_neg q]; exact (h e ((hm e he).resolve_left q)).2 b b1 b2
theorem z_str_arms : jsln 1004 = nI ([97, 114, 109, 115] : List Nat).length ∧ (∀ i, i < ([97, 114, 109, 115] : List Nat).length → jsch 1004 (nI (0 + i)) = some (nI (([97, 114, 109, 115] : List Nat).getD i 0))) := by decide +kernel
theorem z_str_plays : jsln 1005 = nI ([112, 108, 97, 121, 115] : List Nat).length ∧ (∀ i, i < ([112, 108, 97, 121, 115] : List Nat).length → jsch 1005 (nI (0 + i)) = some (nI (([112, 108, 97, 121, 115] : List Nat).getD i 0))) := by decide +kernel
/-- the class keeps a DESK -/
theorem c_deskEnd {v k : Nat} (hR : R = 7 ∨ R = 57) (hj : jop (M.1 107 2) = R) (hk : M.1 R 4 = nI k) (hk8 : k < 8) (hc : c ≤ 60) (h52 : M.1 5 2 = nI c) (h6 : ∀ k, k < c → M.1 6 k = nI (B k)) :
    z_ok ((f_Sp_put (jpf (jop (M.1 107 2)) 8) (M.1 (jop (M.1 107 2)) 4) (nI v) M).bind fun q11 => (f_Pa_setPart (jpf (jop (q11.1 107 2)) 13) (q11.1 (jop (q11.1 107 2)) 4) (jpf 5 1) (q11.1 5 2) q11).bind fun q12 => some ((1 : Int32), sI q12 (jop (q12.1 107 2)) 4 ((q12.1 (jop (q12.1 107 2)) 4) + 1)))
      (fun r => r.1 = 1 ∧ z_Fr (fun i => i ≠ R ∧ i ≠ R + 4 ∧ i ≠ R + 41 + k ∧ i ≠ R + 49) M r.2 ∧ r.2.1 R = (sI M R 4 (nI (k + 1))).1 R ∧ r.2.1 (R + 4) = (sI M (R + 4) k (nI v)).1 (R + 4) ∧ r.2.1 (R + 49) k = nI c ∧ (∀ e, e ≠ k → r.2.1 (R + 49) e = M.1 (R + 49) e) ∧ ∀ q, q < c → r.2.1 (R + 41 + k) q = nI (B q)) := by
  rw [hj, jo_8 hR, hk]
  refine z_eq (zpo_4 hR _ hk8) ?_
  have e1 : (sI M (R + 4) k (nI v)).1 107 2 = M.1 107 2 := by rw [z_sIa _ _ _ _ (by omega)]
  have e2 : (sI M (R + 4) k (nI v)).1 R 4 = nI k := by rw [z_sIa _ _ _ _ (by omega)]; exact hk
  rw [e1, hj, e2, jo_13 hR, jp_5_1, z_sIa _ _ _ _ (show 5 ≠ R + 4 by omega), h52]
  refine z_bind (c_setPart (B := B) hR hk8 hc (fun q hq => by rw [z_sIa _ _ _ _ (by omega)]; exact h6 q hq)) (fun M2 h2 => ?_)
  obtain ⟨g1, g2, g3, g4⟩ := h2
  have e3 : M2.1 107 2 = M.1 107 2 := by rw [g1.1 107 (by omega)]; exact e1
  have e4 : M2.1 R 4 = nI k := by rw [g1.1 R (by omega)]; exact e2
  rw [e3, hj, e4, nI_1]
  refine z_some ⟨rfl, ?_, ?_, ?_, ?_, fun e he => ?_, fun q hq => ?_⟩
  · refine ⟨fun i hi => ?_, ?_⟩
    · rw [z_sIa _ _ _ _ hi.1, g1.1 i ⟨hi.2.2.1, hi.2.2.2⟩, z_sIa _ _ _ _ hi.2.1]
    · exact g1.2
  · refine z_sI_cg ?_
    rw [g1.1 R (by omega), z_sIa _ _ _ _ (by omega)]
  · rw [z_sIa _ _ _ _ (by omega), g1.1 (R + 4) (by omega)]
  · rw [z_sIa _ _ _ _ (by omega)]; exact g2
  · rw [z_sIa _ _ _ _ (by omega), g3 e he, z_sIa _ _ _ _ (by omega)]
  · rw [z_sIa _ _ _ _ (by omega)]; exact g4 q hq
/-- the reference keeps a DESK -/
theorem m_deskEnd {v k : Nat} {E : Int64} (hk : N.1 385 0 = nI k) (hk8 : k < 8) (hc : c ≤ 60) (h44 : N.1 366 44 = nI c) (h6 : ∀ k, k < c → N.1 397 k = nI (B k)) :
    z_ok ((aSL N 386 (nI k) E).bind fun M10 => (aS M10 390 (nI k) (nI v)).bind fun M11 => (aS M11 391 (61 * nI k) (M11.1 366 44)).bind fun M12 => (lp_Mo_deskTold_92 366 (nI k) jfuel 0 M12).bind fun q16 => (aI q16 385 0).bind fun v17 => (aS q16 385 0 (v17 + 1)).bind fun M18 => some M18)
      (fun N' => N'.2 = (sL N 386 k E).2 ∧ (∀ i, i ≠ 385 → i ≠ 390 → i ≠ 391 → N'.1 i = N.1 i) ∧ N'.1 385 = (sI N 385 0 (nI (k + 1))).1 385 ∧ N'.1 390 = (sI N 390 k (nI v)).1 390 ∧ N'.1 391 (61 * k) = nI c ∧ (∀ q, q < c → N'.1 391 (61 * k + 1 + q) = nI (B q)) ∧ ∀ j, (j < 61 * k ∨ 61 * k + 1 + c ≤ j) → N'.1 391 j = N.1 391 j) := by
  refine z_eq (zs_386 _ (by omega)) (z_eq (zs_390 _ (by omega)) ?_)
  rw [show (61 : Int32) = nI 61 from rfl, z_mul]
  refine z_eq (zs_391 _ (by omega)) ?_
  have e44 : (sI (sI (sL N 386 k E) 390 k (nI v)) 391 (61 * k) ((sI (sL N 386 k E) 390 k (nI v)).1 366 44)).1 366 44 = nI c := by
    rw [z_sIa _ _ _ _ (by decide), z_sIa _ _ _ _ (by decide)]; exact h44
  refine z_bind (m_told92 (B := B) hk8 hc e44 (fun q hq => by rw [z_sIa _ _ _ _ (by decide), z_sIa _ _ _ _ (by decide)]; exact h6 q hq)) (fun N2 h2 => ?_)
  obtain ⟨g1, g2, g3⟩ := h2
  have e385 : N2.1 385 0 = nI k := by rw [g1.1 385 (by decide), z_sIa _ _ _ _ (by decide), z_sIa _ _ _ _ (by decide)]; exact hk
  rw [zl_0]
  refine z_eq (zi_385 _ (by decide)) ?_
  rw [e385, nI_1]
  refine z_eq (zs_385 _ (by decide)) (z_some ⟨?_, fun i h1 h3 h4 => ?_, ?_, ?_, ?_, fun q hq => ?_, fun j hj => ?_⟩)
  · exact g1.2
  · rw [z_sIa _ _ _ _ h1, g1.1 i h4, z_sIa _ _ _ _ h4, z_sIa _ _ _ _ h3]; rfl
  · refine z_sI_cg ?_
    rw [g1.1 385 (by decide), z_sIa _ _ _ _ (by decide), z_sIa _ _ _ _ (by decide)]; rfl
  · rw [z_sIa _ _ _ _ (by decide), g1.1 390 (by decide), z_sIa _ _ _ _ (by decide)]
    exact z_sI_cg rfl
  · rw [z_sIa _ _ _ _ (by decide), g3 _ (by omega), z_sIs, z_sIa _ _ _ _ (by decide)]; exact h44
  · rw [z_sIa _ _ _ _ (by decide)]; exact g2 q hq
  · rw [z_sIa _ _ _ _ (by decide), g3 j (by omega), z_sIk _ _ _ _ (by omega), z_sIa _ _ _ _ (by decide)]; rfl
theorem z_EE.dk {v k : Nat} (h : z_EE R (z_dk A) (A 0 0) A M N) (hk : A 0 3 = k) (hk8 : k < 8) (hv : v ≤ 9) :
    z_EE R (z_dk (z_D2 A v k)) (A 0 0) (z_D2 A v k) (sI (sI M (R + z_co 4 k) (z_ck 4 k) (nI v)) (R + z_co 0 3) (z_ck 0 3) (nI (k + 1))) (sI (sI N (z_mo 4 k) (z_mp 4 k) (nI v)) (z_mo 0 3) (z_mp 0 3) (nI (k + 1))) := by
  refine ((h.up (i := 4) (k := k) (by decide) (by omega) hv).up (i := 0) (k := 3) (v := k + 1) (by decide) (by decide) ⟨fun e => by omega, fun e => by omega, fun e => by omega, fun _ => by omega, fun e => by omega⟩).wk (fun i' k' hi' hk' hd => ?_)
  rcases z_dk.up (i := 0) (by decide) z_D2_k hk (fun j _ hj => z_D2_0 hj) hi' hd with q | ⟨q1, q2⟩
  · exact Or.inl (Or.inl q)
  · rcases q2 with ⟨_, q2⟩ | ⟨q2, _⟩
    · exact Or.inl (Or.inr ⟨q2, q1⟩)
    · omega
/-- a DESK more -/
theorem z_ST.desk {v k : Nat} {f : Nat → Nat} {E : Int64} (hQ : z_QB R A nm P M1 N1) (hB : z_BT T n b M1 N1) (C : z_YC R M M1) (Y : z_YN N N1) (S : z_SF M M1) (hk : A 0 3 = k) (hk8 : k < 8) (hv : v ≤ 9) (hc : c ≤ 60) (hB3 : z_B3 B c)
    (hf : z_nf1 f) (hL : ∀ j, j < 6 → M1.1 (R + 6 + k) j = nI (if f j = 0 then 0 else f j + 96)) (hE : E = lN (z_it (fun k v => 27 * v + f k) (f 6) 0))
    (hM : z_Fr (fun i => i ≠ R ∧ i ≠ R + 4 ∧ i ≠ R + 41 + k ∧ i ≠ R + 49) M1 M' ∧ M'.1 R = (sI M1 R 4 (nI (k + 1))).1 R ∧ M'.1 (R + 4) = (sI M1 (R + 4) k (nI v)).1 (R + 4) ∧ M'.1 (R + 49) k = nI c ∧ (∀ e, e ≠ k → M'.1 (R + 49) e = M1.1 (R + 49) e) ∧ ∀ q, q < c → M'.1 (R + 41 + k) q = nI (B q))
    (hN : N'.2 = (sL N1 386 k E).2 ∧ (∀ i, i ≠ 385 → i ≠ 390 → i ≠ 391 → N'.1 i = N1.1 i) ∧ N'.1 385 = (sI N1 385 0 (nI (k + 1))).1 385 ∧ N'.1 390 = (sI N1 390 k (nI v)).1 390 ∧ N'.1 391 (61 * k) = nI c ∧ (∀ q, q < c → N'.1 391 (61 * k + 1 + q) = nI (B q)) ∧ ∀ j, (j < 61 * k ∨ 61 * k + 1 + c ≤ j) → N'.1 391 j = N1.1 391 j) :
    z_ST T n R A M N 1 M' N' := by
  obtain ⟨h1, h2, h3, h4, h5, h6, h7, h8, h9⟩ := hQ
  obtain ⟨a1, a2, a3, a4, a5, a6⟩ := hM
  obtain ⟨b1, b2, b3, b4, b5, b6, b7⟩ := hN
  have hd8 := h3.nA rfl
  have E3 := h3.dk hk hk8 hv
  have F1 : ∀ i, i < 7 → M'.1 i = M1.1 i := fun i hi => a1.1 i ⟨by omega, by omega, by omega, by omega⟩
  have nn := z_names (A' := z_D2 A v k) (i := 0) (f := f) (M := M1) (M' := M') (N := N1) (N' := N') hd8 (by show A 0 3 < 8; omega) (by show z_D2 A v k 0 3 = A 0 3 + 1; rw [z_D2_k, hk]) (fun j hj hne => z_D2_0 (by omega)) (by decide) h4 h5 h6 hf
    (fun j hj => by rw [show 8 * 0 + A 0 (3 + 0) = k from by show 8 * 0 + A 0 3 = k; omega, a1.1 _ ⟨by omega, by omega, by omega, by omega⟩]; exact hL j hj)
    (fun r hr _ => a1.1 _ ⟨by omega, by omega, by omega, by omega⟩)
    (by rw [show 8 * 0 + A 0 (3 + 0) = k from by show 8 * 0 + A 0 3 = k; omega, b1, z_sL, if_pos rfl, if_pos rfl]; exact hE)
    (fun r hr hne => by rw [b1, z_sL, if_pos rfl, if_neg (fun e => hne (by rw [e]; show k = 8 * 0 + A 0 3; omega))])
  refine ⟨C.tr ⟨a1.wk (fun i q => ⟨by omega, by omega, by omega, by omega⟩), fun _ => ?_⟩, Y.tr ⟨fun i j q => ?_, fun i j q => ?_⟩, Or.inl ⟨rfl, ⟨b, hB.fr (F1 1 (by decide)) (F1 2 (by decide)) (F1 3 (by decide)) (F1 4 (by decide)) (fun _ _ => by rw [b2 366 (by decide) (by decide) (by decide)]) (b2 367 (by decide) (by decide) (by decide))⟩, S.tr ⟨by rw [F1 3 (by decide)], by rw [F1 3 (by decide)]⟩, z_D2 A v k, _, z_Pd P k c B, z_D2_0 (by decide), h1, ?_, ?_, nn.1, nn.2.1, nn.2.2, ?_, ?_, ?_⟩⟩
  · rw [a2, z_sIk _ _ _ _ (by decide)]
  · have : (i ≠ 385 ∧ i ≠ 390 ∧ i ≠ 391) ∨ (i = 385 ∧ 4 ≤ j) ∨ (i = 390 ∧ 8 ≤ j) ∨ (i = 391 ∧ 488 ≤ j) := by
      unfold z_pk at q
      by_cases e1 : i = 385
      · subst e1
        have : z_th 385 = 4 := rfl
        omega
      · by_cases e2 : i = 390
        · subst e2
          have : z_th 390 = 8 := rfl
          omega
        · by_cases e3 : i = 391
          · subst e3
            have : z_th 391 = 488 := rfl
            omega
          · exact Or.inl ⟨e1, e2, e3⟩
    rcases this with ⟨e1, e2, e3⟩ | ⟨rfl, e⟩ | ⟨rfl, e⟩ | ⟨rfl, e⟩
    · rw [b2 i e1 e2 e3]
    · rw [b3, z_sIk _ _ _ _ (by omega)]
    · rw [b4, z_sIk _ _ _ _ (by omega)]
    · exact b7 j (by omega)
  · rw [b1, z_sL]
    by_cases e : i = 386
    · rw [if_pos e, if_neg (by omega), e]
    · rw [if_neg e]
  · rw [a1.1 107 ⟨by omega, by omega, by omega, by omega⟩]; exact h2
  · rw [z_D2_0 (by decide)]
    refine E3.fr (fun i hi => ?_) (fun i i1 i2 i3 => ?_) ?_
    · show M'.1 (R + i) = (sI (sI M1 (R + 4) k (nI v)) (R + 0) 4 (nI (k + 1))).1 (R + i)
      by_cases e0 : i = 0
      · subst e0
        show M'.1 R = (sI (sI M1 (R + 4) k (nI v)) R 4 (nI (k + 1))).1 R
        rw [a2]
        exact z_sI_cg (z_sIa _ _ _ _ (by omega)).symm
      · rw [z_sIa _ _ _ _ (by omega)]
        by_cases e4 : i = 4
        · subst e4; exact a3
        · rw [z_sIa _ _ _ _ (by omega)]
          exact a1.1 _ ⟨by omega, by omega, by omega, by omega⟩
    · show N'.1 i = (sI (sI N1 390 k (nI v)) 385 0 (nI (k + 1))).1 i
      by_cases e0 : i = 385
      · subst e0
        rw [b3]
        exact z_sI_cg (z_sIa _ _ _ _ (by decide)).symm
      · rw [z_sIa _ _ _ _ e0]
        by_cases e4 : i = 390
        · subst e4; exact b4
        · rw [z_sIa _ _ _ _ e4]; exact b2 i e0 e4 i3
    · show N'.1 366 30 = (sI (sI N1 390 k (nI v)) 385 0 (nI (k + 1))).1 366 30
      rw [z_sIa _ _ _ _ (by decide), z_sIa _ _ _ _ (by decide), b2 366 (by decide) (by decide) (by decide)]
  · rw [z_D2_k]
    intro e he
    by_cases q : e = k
    · subst q
      show M'.1 (R + 49) e = nI (if e = e then c else _) ∧ ∀ b, b < (if e = e then c else _) → M'.1 (R + 41 + e) b = nI (if e = e then B (b + 1 - 1) else _)
      rw [if_pos rfl]
      refine ⟨a4, fun b hb => ?_⟩
      rw [if_pos rfl]; exact a6 b hb
    · show M'.1 (R + 49) e = nI (if e = k then c else P.1 e) ∧ ∀ b, b < (if e = k then c else P.1 e) → M'.1 (R + 41 + e) b = nI (if e = k then B (b + 1 - 1) else P.2 e (b + 1))
      rw [if_neg q, a5 e q]
      refine ⟨(h7 e (by omega)).1, fun b hb => ?_⟩
      rw [if_neg q, a1.1 _ ⟨by omega, by omega, by omega, by omega⟩]; exact (h7 e (by omega)).2 b hb
  · rw [z_D2_k]
    intro e he
    by_cases q : e = k
    · subst q
      show N'.1 391 (61 * e) = nI (if e = e then c else _) ∧ ∀ b, 1 ≤ b → b ≤ (if e = e then c else _) → N'.1 391 (61 * e + b) = nI (if e = e then B (b - 1) else _)
      rw [if_pos rfl]
      refine ⟨b5, fun b c1 c2 => ?_⟩
      rw [if_pos rfl, show 61 * e + b = 61 * e + 1 + (b - 1) by omega]; exact b6 (b - 1) (by omega)
    · show N'.1 391 (61 * e) = nI (if e = k then c else P.1 e) ∧ ∀ b, 1 ≤ b → b ≤ (if e = k then c else P.1 e) → N'.1 391 (61 * e + b) = nI (if e = k then B (b - 1) else P.2 e b)
      have he2 : e < A 0 3 := by omega
      have p60 := (h9 e he2).1
      rw [if_neg q, b7 _ (by omega)]
      refine ⟨(h8 e he2).1, fun b c1 c2 => ?_⟩
      rw [if_neg q, b7 _ (by omega)]; exact (h8 e he2).2 b c1 c2
  · rw [z_D2_k]
    exact z_Pd_W h9 hc hB3 (fun e he => by omega)
end
