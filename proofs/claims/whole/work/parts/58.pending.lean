/-! ===== pure: an opera that is being told, both ===== -/
/-- where the class keeps what A tells, where the reference -/
def z_co : Nat → Nat → Nat
  | 0, k => if k < 4 then 0 else if k < 7 then 18 + 3 * k else 0
  | 1, _ => 1
  | 2, _ => 2
  | 3, _ => 3
  | 4, _ => 4
  | 5, _ => 31
  | 6, _ => 32
  | 7, _ => 34
  | 8, _ => 35
  | 9, _ => 37
  | _, _ => 38
def z_ck : Nat → Nat → Nat
  | 0, k => if k < 4 then k + 1 else if k < 7 then 2 else k
  | _ + 1, k => k
def z_mo : Nat → Nat → Nat
  | 0, k => if k = 0 then 366 else if k = 1 then 395 else if k = 2 then 396 else 385
  | 1, _ => 387
  | 2, _ => 388
  | 3, _ => 389
  | 4, _ => 390
  | 5, _ => 392
  | 6, _ => 392
  | 7, _ => 393
  | 8, _ => 393
  | 9, _ => 394
  | _, _ => 394
def z_mp : Nat → Nat → Nat
  | 0, k => if k = 0 then 30 else if k < 3 then 0 else k - 3
  | 5, k => 2 * k
  | 6, k => 2 * k + 1
  | 7, k => 2 * k
  | 8, k => 2 * k + 1
  | 9, k => 2 * k
  | 10, k => 2 * k + 1
  | _, k => k
def z_cd (r q : Nat) : Nat × Nat := if r = 0 then (if q ≤ 4 then (0, q - 1) else (0, q)) else if r ≤ 4 then (r, q) else if r = 30 then (0, 4) else if r = 33 then (0, 5) else if r = 36 then (0, 6) else if r < 33 then (r - 26, q) else if r < 36 then (r - 27, q) else (r - 28, q)
def z_md (r q : Nat) : Nat × Nat := if r = 366 then (0, 0) else if r = 395 then (0, 1) else if r = 396 then (0, 2) else if r = 385 then (0, q + 3) else if r < 391 then (r - 386, q) else (5 + 2 * (r - 392) + q % 2, q / 2)
theorem z_cd_s : ∀ i, i < 11 → ∀ k, k < 12 → z_cd (z_co i k) (z_ck i k) = (i, k) := by decide +kernel
theorem z_md_s : ∀ i, i < 11 → ∀ k, k < 12 → z_md (z_mo i k) (z_mp i k) = (i, k) := by decide +kernel
theorem z_co_inj (i : Nat) (hi : i < 11) (k : Nat) (hk : k < 12) (i' : Nat) (hi' : i' < 11) (k' : Nat) (hk' : k' < 12) (e1 : z_co i k = z_co i' k') (e2 : z_ck i k = z_ck i' k') : i = i' ∧ k = k' := by
  have h := z_cd_s i hi k hk
  rw [e1, e2, z_cd_s i' hi' k' hk'] at h
  exact ⟨(congrArg Prod.fst h).symm, (congrArg Prod.snd h).symm⟩
theorem z_mo_inj (i : Nat) (hi : i < 11) (k : Nat) (hk : k < 12) (i' : Nat) (hi' : i' < 11) (k' : Nat) (hk' : k' < 12) (e1 : z_mo i k = z_mo i' k') (e2 : z_mp i k = z_mp i' k') : i = i' ∧ k = k' := by
  have h := z_md_s i hi k hk
  rw [e1, e2, z_md_s i' hi' k' hk'] at h
  exact ⟨(congrArg Prod.fst h).symm, (congrArg Prod.snd h).symm⟩
theorem z_co_lt : ∀ i, i < 11 → ∀ k, k < 12 → z_co i k < 39 := by decide +kernel
theorem z_mo_in : ∀ i, i < 11 → ∀ k, k < 12 → (z_mo i k = 366 ∧ z_mp i k = 30) ∨ (385 ≤ z_mo i k ∧ z_mo i k < 397 ∧ z_mo i k ≠ 391) := by decide +kernel
def z_cx : Nat → Nat
  | 4 => 3
  | 5 => 4
  | 6 => 4
  | 7 => 5
  | 8 => 5
  | 9 => 6
  | 10 => 6
  | _ => 0
def z_dk (A : ZA) (i k : Nat) : Prop := k < (if i = 0 then 7 else A 0 (z_cx i))
theorem z_cx_s : ∀ i', i' < 11 → z_cx i' < 7 ∧ (z_cx i' = 0 ∨ 3 ≤ z_cx i') ∧ ∀ i, i < 4 → z_cx i' = 3 + i → (i = 0 ∧ i' = 4) ∨ (1 ≤ i ∧ (i' = 3 + 2 * i ∨ i' = 4 + 2 * i)) := by decide +kernel
theorem z_dk.cg {A A' : ZA} (h : ∀ k, k < 7 → (k = 0 ∨ 3 ≤ k) → A' 0 k = A 0 k) {i k : Nat} (hi : i < 11) (hd : z_dk A' i k) : z_dk A i k := by
  unfold z_dk at *
  obtain ⟨c1, c2, _⟩ := z_cx_s i hi
  rw [h _ c1 c2] at hd
  exact hd
theorem z_dk.up {A A' : ZA} {i k : Nat} (hi : i < 4) (hA : A' 0 (3 + i) = k + 1) (hk : A 0 (3 + i) = k) (hA2 : ∀ j, j < 7 → j ≠ 3 + i → A' 0 j = A 0 j) {i' k' : Nat} (hi' : i' < 11) (h : z_dk A' i' k') :
    z_dk A i' k' ∨ (k' = k ∧ ((i = 0 ∧ i' = 4) ∨ (1 ≤ i ∧ (i' = 3 + 2 * i ∨ i' = 4 + 2 * i)))) := by
  unfold z_dk at *
  obtain ⟨c1, c2, c3⟩ := z_cx_s i' hi'
  by_cases e0 : i' = 0
  · rw [if_pos e0] at *; exact Or.inl h
  · rw [if_neg e0] at *
    by_cases e : z_cx i' = 3 + i
    · rw [e, hA] at h
      rw [e, hk]
      by_cases q : k' = k
      · exact Or.inr ⟨q, c3 i hi e⟩
      · exact Or.inl (by omega)
    · rw [hA2 _ c1 e] at h; exact Or.inl h
def z_bd (c : Nat) : Nat → Nat → Nat → Prop
  | 0, k, v => (k = 0 → 2 ≤ v ∧ v ≤ 12) ∧ (k = 1 → v < c) ∧ (k = 2 → 1 ≤ v ∧ v ≤ 99) ∧ (k = 3 → v ≤ 8) ∧ (4 ≤ k → v ≤ 4)
  | 1, _, v => v ≤ 9
  | 2, _, v => v ≤ 99
  | 3, _, v => v ≤ 1
  | 4, _, v => v ≤ 9
  | 5, _, v => v < c
  | 6, _, v => v ≤ 99
  | 7, _, v => v < c
  | 8, _, v => v ≤ 99
  | 9, _, v => v < c
  | _, _, v => v ≤ 9
def z_EE (R : Nat) (D : Nat → Nat → Prop) (c : Nat) (A : ZA) (M N : SM) : Prop := ∀ i k, i < 11 → k < 12 → D i k → M.1 (R + z_co i k) (z_ck i k) = nI (A i k) ∧ N.1 (z_mo i k) (z_mp i k) = nI (A i k) ∧ z_bd c i k (A i k)
def z_uA (A : ZA) (i k v : Nat) : ZA := fun i' k' => if i' = i ∧ k' = k then v else A i' k'
theorem z_uAs (A : ZA) (i k v : Nat) : z_uA A i k v i k = v := if_pos ⟨rfl, rfl⟩
theorem z_uAn (A : ZA) (i k v : Nat) {i' k' : Nat} (h : ¬ (i' = i ∧ k' = k)) : z_uA A i k v i' k' = A i' k' := if_neg h
section
variable {R c : Nat} {D D' : Nat → Nat → Prop} {A : ZA} {M N M' N' : SM}
theorem z_EE.up {i k v : Nat} (h : z_EE R D c A M N) (hi : i < 11) (hk : k < 12) (hv : z_bd c i k v) :
    z_EE R (fun i' k' => D i' k' ∨ (i' = i ∧ k' = k)) c (z_uA A i k v) (sI M (R + z_co i k) (z_ck i k) (nI v)) (sI N (z_mo i k) (z_mp i k) (nI v)) := by
  intro i' k' hi' hk' hD
  by_cases e : i' = i ∧ k' = k
  · obtain ⟨rfl, rfl⟩ := e
    rw [z_uAs]
    exact ⟨z_sIs _ _ _ _, z_sIs _ _ _ _, hv⟩
  · rw [z_uAn _ _ _ _ e]
    obtain ⟨h1, h2, h3⟩ := h i' k' hi' hk' (hD.resolve_right e)
    refine ⟨?_, ?_, h3⟩
    · rw [z_sI]
      by_cases q : R + z_co i' k' = R + z_co i k
      · rw [if_pos q]
        by_cases q2 : z_ck i' k' = z_ck i k
        · exact absurd (z_co_inj i' hi' k' hk' i hi k hk (by omega) q2) e
        · rw [if_neg q2]; exact h1
      · rw [if_neg q]; exact h1
    · rw [z_sI]
      by_cases q : z_mo i' k' = z_mo i k
      · rw [if_pos q]
        by_cases q2 : z_mp i' k' = z_mp i k
        · exact absurd (z_mo_inj i' hi' k' hk' i hi k hk q q2) e
        · rw [if_neg q2]; exact h2
      · rw [if_neg q]; exact h2
theorem z_EE.fr (h : z_EE R D c A M N) (k1 : ∀ i, i < 39 → M'.1 (R + i) = M.1 (R + i)) (k2 : ∀ i, 385 ≤ i → i < 397 → i ≠ 391 → N'.1 i = N.1 i) (k3 : N'.1 366 30 = N.1 366 30) : z_EE R D c A M' N' := by
  intro i k hi hk hD
  obtain ⟨h1, h2, h3⟩ := h i k hi hk hD
  refine ⟨by rw [k1 _ (z_co_lt i hi k hk)]; exact h1, ?_, h3⟩
  rcases z_mo_in i hi k hk with ⟨e1, e2⟩ | ⟨e1, e2, e3⟩
  · rw [e1, e2] at h2
    rw [e1, e2, k3]; exact h2
  · rw [k2 _ e1 e2 e3]; exact h2
theorem z_EE.wk (h : z_EE R D c A M N) (k : ∀ i j, i < 11 → j < 12 → D' i j → D i j) : z_EE R D' c A M N := fun i j hi hj hD => h i j hi hj (k i j hi hj hD)
theorem z_EE.b (h : z_EE R (z_dk A) c A M N) (hc : c = A 0 0) : 2 ≤ A 0 0 ∧ A 0 0 ≤ 12 ∧ A 0 1 < A 0 0 ∧ 1 ≤ A 0 2 ∧ A 0 2 ≤ 99 ∧ A 0 3 ≤ 8 ∧ A 0 4 ≤ 4 ∧ A 0 5 ≤ 4 ∧ A 0 6 ≤ 4 := by
  subst hc
  have f := fun k (hk : k < 7) => (h 0 k (by decide) (by omega) hk).2.2
  have f0 := (f 0 (by decide)).1 rfl
  have f1 := (f 1 (by decide)).2.1 rfl
  have f2 := (f 2 (by decide)).2.2.1 rfl
  have f3 := (f 3 (by decide)).2.2.2.1 rfl
  have f4 := (f 4 (by decide)).2.2.2.2 (by decide)
  have f5 := (f 5 (by decide)).2.2.2.2 (by decide)
  have f6 := (f 6 (by decide)).2.2.2.2 (by decide)
  exact ⟨f0.1, f0.2, f1, f2.1, f2.2, f3, f4, f5, f6⟩
theorem z_EE.nA (h : z_EE R (z_dk A) c A M N) (hc : c = A 0 0) : z_nA A := fun i hi => by
  have b := h.b hc
  match i, hi with
  | 0, _ => exact b.2.2.2.2.2.1
  | 1, _ => exact Nat.le_trans b.2.2.2.2.2.2.1 (by decide)
  | 2, _ => exact Nat.le_trans b.2.2.2.2.2.2.2.1 (by decide)
theorem z_EE.oc (h : z_EE R (z_dk A) c A M N) (hc : c = A 0 0) : z_OC R A M := by
  have b := h.b hc
  have f := fun k (hk : k < 7) => (h 0 k (by decide) (by omega) hk).1
  have g := fun i k (hi : i < 11) (hk : k < 12) (hD : z_dk A i k) => (h i k hi hk hD).1
  refine ⟨f 0 (by decide), f 1 (by decide), f 2 (by decide), f 3 (by decide), f 4 (by decide), f 5 (by decide), f 6 (by decide), fun k hk => ?_, fun k hk => ?_, fun k hk => ?_, fun k hk => ?_, fun k hk => ?_⟩
  · exact ⟨g 1 k (by decide) (by omega) hk, g 2 k (by decide) (by omega) hk, g 3 k (by decide) (by omega) hk⟩
  · exact g 4 k (by decide) (by omega) hk
  · exact ⟨g 5 k (by decide) (by omega) hk, g 6 k (by decide) (by omega) hk⟩
  · exact ⟨g 7 k (by decide) (by omega) hk, g 8 k (by decide) (by omega) hk⟩
  · exact ⟨g 9 k (by decide) (by omega) hk, g 10 k (by decide) (by omega) hk⟩
theorem z_EE.w (h : z_EE R (z_dk A) c A M N) (hc : c = A 0 0) : z_W A ∧ z_R A := by
  have b := h.b hc
  subst hc
  have g := fun i k (hi : i < 11) (hk : k < 12) (hD : z_dk A i k) => (h i k hi hk hD).2.2
  refine ⟨⟨b.2.1, b.2.2.2.2.2.1, b.2.2.2.2.2.2.1, b.2.2.2.2.2.2.2.1, b.2.2.2.2.2.2.2.2, b.2.2.2.1, b.2.2.2.2.1, fun k hk => ?_, fun k hk => ?_, fun k hk => ?_, fun k hk => ?_, fun k hk => ?_⟩, b.1, b.2.2.1⟩
  · exact ⟨g 1 k (by decide) (by omega) hk, g 2 k (by decide) (by omega) hk, g 3 k (by decide) (by omega) hk⟩
  · exact g 4 k (by decide) (by omega) hk
  · exact ⟨g 5 k (by decide) (by omega) hk, g 6 k (by decide) (by omega) hk⟩
  · exact ⟨g 7 k (by decide) (by omega) hk, g 8 k (by decide) (by omega) hk⟩
  · exact ⟨g 9 k (by decide) (by omega) hk, g 10 k (by decide) (by omega) hk⟩
end
/-- PARTS told so far, of the reference -/
def z_TP (n : Nat) (P : ZP) (N : SM) : Prop := ∀ d, d < n → N.1 391 (61 * d) = nI (P.1 d) ∧ ∀ b, 1 ≤ b → b ≤ P.1 d → N.1 391 (61 * d + b) = nI (P.2 d b)
def z_QB (R : Nat) (A : ZA) (nm : Nat → Nat → Nat) (P : ZP) (M N : SM) : Prop :=
  (R = 7 ∨ R = 57) ∧ jop (M.1 107 2) = R ∧ z_EE R (z_dk A) (A 0 0) A M N ∧ z_nC R A nm M ∧ z_nM A nm N ∧ z_nk A nm ∧ z_TC R (A 0 3) P M ∧ z_TP (A 0 3) P N ∧ z_WP (A 0 3) P
/-- what a STATEMENT may change -/
def z_YD (R : Nat) (M M' : SM) : Prop := z_Fr (fun i => i ≠ 3 ∧ i ≠ 4 ∧ i ≠ 5 ∧ i ≠ 6 ∧ (i < R ∨ R + 49 < i)) M M'
def z_YC (R : Nat) (M M' : SM) : Prop := z_YD R M M' ∧ (7 ≤ R → M'.1 R 0 = M.1 R 0)
def z_th (i : Nat) : Nat := if i = 385 then 4 else if i = 387 ∨ i = 388 ∨ i = 389 then 12 else if i = 391 then 488 else if i = 395 ∨ i = 396 then 1 else 8
def z_pk (i k : Nat) : Prop := (i ≠ 366 ∧ i ≠ 397 ∧ i ≠ 398 ∧ (i < 385 ∨ 397 < i ∨ z_th i ≤ k)) ∨ (i = 366 ∧ k ≠ 2 ∧ k ≠ 4 ∧ k ≠ 5 ∧ k ≠ 6 ∧ k ≠ 9 ∧ k ≠ 27 ∧ k ≠ 30 ∧ k ≠ 44 ∧ k ≠ 46)
def z_YN (N N' : SM) : Prop := (∀ i k, z_pk i k → N'.1 i k = N.1 i k) ∧ ∀ i k, i ≠ 386 ∨ 24 ≤ k → N'.2 i k = N.2 i k
section
variable {R c : Nat} {A : ZA} {nm : Nat → Nat → Nat} {P : ZP} {M N M' N' M'' N'' : SM}
theorem z_YC.rf : z_YC R M M := ⟨z_Fr.rf, fun _ => rfl⟩
theorem z_YC.tr (h : z_YC R M M') (k : z_YC R M' M'') : z_YC R M M'' := ⟨z_Fr.tr h.1 k.1, fun q => (k.2 q).trans (h.2 q)⟩
theorem z_co_0 : ∀ i, i < 11 → ∀ k, k < 12 → z_co i k ≠ 0 ∨ z_ck i k ≠ 0 := by decide +kernel
theorem z_YC.s {i k : Nat} {v : Int32} (h : z_YC R M M') (h1 : R ≤ i) (h2 : i ≤ R + 49) (h3 : i ≠ R ∨ k ≠ 0) : z_YC R M (sI M' i k v) := ⟨h.1.sI (by omega), fun q => by
  rw [z_sI]
  by_cases e : R = i
  · rw [if_pos e, if_neg (by omega)]; exact h.2 q
  · rw [if_neg e]; exact h.2 q⟩
theorem z_PE.yc (h : z_PE M M') : z_YC R M M' := ⟨h.wk (fun i q => ⟨q.1, q.2.1, q.2.2.1, q.2.2.2.1⟩), fun q => by rw [h.1 R ⟨by omega, by omega, by omega, by omega⟩]⟩
theorem z_YN.rf : z_YN N N := ⟨fun _ _ _ => rfl, fun _ _ _ => rfl⟩
theorem z_YN.tr (h : z_YN N N') (k : z_YN N' N'') : z_YN N N'' := ⟨fun i j q => (k.1 i j q).trans (h.1 i j q), fun i j q => (k.2 i j q).trans (h.2 i j q)⟩
theorem z_YN.s {i k : Nat} {v : Int32} (h : z_YN N N') (hp : ¬ z_pk i k) : z_YN N (sI N' i k v) := ⟨fun a b q => by
  rw [z_sI]
  by_cases e : a = i
  · subst e
    rw [if_pos rfl]
    by_cases e2 : b = k
    · subst e2; exact absurd q hp
    · rw [if_neg e2]; exact h.1 a b q
  · rw [if_neg e]; exact h.1 a b q, h.2⟩
theorem z_YN.l {k : Nat} {v : Int64} (h : z_YN N N') (hp : k < 24) : z_YN N (sL N' 386 k v) := ⟨h.1, fun a b q => by
  rw [z_sL]
  by_cases e : a = 386
  · subst e
    rw [if_pos rfl, if_neg (by omega)]; exact h.2 386 b q
  · rw [if_neg e]; exact h.2 a b q⟩
theorem z_pn {i k : Nat} (h1 : 385 ≤ i) (h2 : i < 397) (hk : k < z_th i) : ¬ z_pk i k := by
  unfold z_pk; omega
theorem z_pf {k : Nat} (h : k = 2 ∨ k = 4 ∨ k = 5 ∨ k = 6 ∨ k = 9 ∨ k = 27 ∨ k = 30 ∨ k = 44 ∨ k = 46) : ¬ z_pk 366 k := by
  unfold z_pk; omega
theorem z_PX.yn (h : z_PX N N') : z_YN N N' := ⟨fun i k q => by
  unfold z_pk at q
  by_cases e : i = 366
  · subst e
    exact h.2 k (by omega)
  · rw [h.1.1 i (by omega)], fun i k _ => by rw [h.1.2]⟩
theorem z_LX.yn (h : z_LX N N') : z_YN N N' := h.px.yn
/-- what reading leaves as it was -/
theorem z_QB.rd (h : z_QB R A nm P M N) (k : z_PE M M') (x : z_PX N N') : z_QB R A nm P M' N' := by
  obtain ⟨h1, h2, h3, h4, h5, h6, h7, h8, h9⟩ := h
  have hn8 := h3.nA rfl
  refine ⟨h1, by rw [k.1 107 (by decide)]; exact h2, h3.fr (fun i hi => k.1 _ (by omega)) (fun i a b c => x.1.1 i (by omega)) (x.2 30 (by decide)), fun i w hi hw j hj => ?_, fun i w hi hw => ?_, h6, fun d hd => ?_, fun d hd => ?_, h9⟩
  · rw [k.1 _ (by omega)]; exact h4 i w hi hw j hj
  · rw [x.1.2]; exact h5 i w hi hw
  · have := hn8 0 (by decide)
    rw [k.1 _ (by omega), k.1 _ (by omega)]; exact h7 d hd
  · rw [x.1.1 391 (by decide)]; exact h8 d hd
theorem z_QB.re (h : z_QB R A nm P M N) (k : z_RE M M') (x : z_LX N N') : z_QB R A nm P M' N' := h.rd k.pe x.px
end
