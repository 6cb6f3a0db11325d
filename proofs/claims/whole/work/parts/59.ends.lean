/-! ===== pure: what a STATEMENT ends with ===== -/
/-- what came of a STATEMENT, but its ; -/
def z_ST (T : Nat → Nat) (n R : Nat) (A : ZA) (M N : SM) (v : Int32) (M' N' : SM) : Prop :=
  z_YC R M M' ∧ z_YN N N' ∧
  ((v = 1 ∧ (∃ b', z_BT T n b' M' N') ∧ z_SF M M' ∧ ∃ A' nm' P', A' 0 0 = A 0 0 ∧ z_QB R A' nm' P' M' N') ∨
   (v = 0 ∧ z_FF M' N') ∨
   (v = 1 ∧ ∃ b', z_mb T n b' ∧ z_RD T n b' M' ∧ z_tc n T M' ∧ z_so T n b' ≠ 3 ∧ z_MF 1 (z_sk T n b') N'))
section
variable {T : Nat → Nat} {n b R : Nat} {A : ZA} {nm : Nat → Nat → Nat} {P : ZP} {M N M1 N1 M' N' : SM}
theorem z_BT.fr (h : z_BT T n b M N) (k1 : M'.1 1 = M.1 1) (k2 : M'.1 2 = M.1 2) (k3 : M'.1 3 = M.1 3) (k4 : M'.1 4 = M.1 4) (f : ∀ k, k < 7 → N'.1 366 k = N.1 366 k) (g : N'.1 367 = N.1 367) : z_BT T n b M' N' := by
  obtain ⟨h1, h2, h3, a, r1, r2, r3, r4, r5, r6, r7, r8⟩ := h
  refine ⟨h1, h2.fr k3 k4, h3.fr k1 k2, a, (f 2 (by decide)).trans r1, r2, r3, (f 3 (by decide)).trans r4, ?_, (f 5 (by decide)).trans r6, (f 6 (by decide)).trans r7, fun k hk => by rw [g]; exact r8 k hk⟩
  unfold z_ed
  rw [f 4 (by decide)]; exact r5
theorem z_BT.s {i k i' k' : Nat} {v v' : Int32} (h : z_BT T n b M N) (hi : 7 ≤ i) (hi' : 368 ≤ i') : z_BT T n b (sI M i k v) (sI N i' k' v') :=
  h.fr (z_sIa _ _ _ _ (by omega)) (z_sIa _ _ _ _ (by omega)) (z_sIa _ _ _ _ (by omega)) (z_sIa _ _ _ _ (by omega)) (fun k _ => by rw [z_sIa _ _ _ _ (by omega)]) (z_sIa _ _ _ _ (by omega))
theorem z_SF.s {i k : Nat} {v : Int32} (h : z_SF M M1) (hi : i ≠ 3) : z_SF M (sI M1 i k v) := ⟨(by rw [z_sIa _ _ _ _ (fun e => hi e.symm)]; exact h.1), (by rw [z_sIa _ _ _ _ (fun e => hi e.symm)]; exact h.2)⟩
/-- one number more is told -/
theorem z_ST.up {i k v : Nat} (hQ : z_QB R A nm P M1 N1) (hB : z_BT T n b M1 N1) (C : z_YC R M M1) (Y : z_YN N N1) (S : z_SF M M1) (hi : i < 11) (hk : k < 12) (h0 : ¬ (i = 0 ∧ (k = 0 ∨ 3 ≤ k))) (hv : z_bd (A 0 0) i k v) (hp : z_mp i k < z_th (z_mo i k)) :
    z_ST T n R A M N 1 (sI M1 (R + z_co i k) (z_ck i k) (nI v)) (sI N1 (z_mo i k) (z_mp i k) (nI v)) := by
  obtain ⟨h1, h2, h3, h4, h5, h6, h7, h8, h9⟩ := hQ
  have hco := z_co_lt i hi k hk
  have hmo : 385 ≤ z_mo i k ∧ z_mo i k < 397 ∧ z_mo i k ≠ 391 := by
    rcases z_mo_in i hi k hk with q | q
    · exfalso
      have e := z_mo_inj i hi k hk 0 (by decide) 0 (by decide) q.1 q.2
      exact h0 ⟨e.1, Or.inl e.2⟩
    · exact q
  have hA : ∀ j, (j = 0 ∨ 3 ≤ j) → z_uA A i k v 0 j = A 0 j := fun j hj => z_uAn _ _ _ _ (fun e => h0 ⟨e.1.symm, by rw [← e.2]; exact hj⟩)
  have hd8 := h3.nA rfl
  have hc0 := z_co_0 i hi k hk
  refine ⟨C.s (by omega) (by omega) (by omega), Y.s (z_pn hmo.1 hmo.2.1 hp), Or.inl ⟨rfl, ⟨b, hB.s (by omega) (by omega)⟩, S.s (by omega), z_uA A i k v, nm, P, hA 0 (Or.inl rfl), h1, ?_, ?_, fun j w hj hw q hq => ?_, fun j w hj hw => ?_, fun j w hj hw => ?_, ?_, ?_, ?_⟩⟩
  · rw [z_sIa _ _ _ _ (by omega)]; exact h2
  · rw [hA 0 (Or.inl rfl)]
    exact (h3.up hi hk hv).wk (fun i' k' hi' _ hd => Or.inl (hd.cg (fun j _ hj => hA j hj) hi'))
  · rw [hA _ (Or.inr (by omega))] at hw
    have := hd8 j hj
    have e : R + 6 + (8 * j + w) ≠ R + z_co i k := by
      intro e
      have : z_co i k < 5 ∨ 30 ≤ z_co i k := (by decide +kernel : ∀ i, i < 11 → ∀ k, k < 12 → z_co i k < 5 ∨ 30 ≤ z_co i k) i hi k hk
      omega
    rw [z_sIa _ _ _ _ e]; exact h4 j w hj hw q hq
  · rw [hA _ (Or.inr (by omega))] at hw
    exact h5 j w hj hw
  · rw [hA _ (Or.inr (by omega))] at hw
    exact h6 j w hj hw
  · rw [hA 3 (Or.inr (by decide))]
    intro d hd
    have := hd8 0 (by decide)
    rw [z_sIa _ _ _ _ (by omega), z_sIa _ _ _ _ (by omega)]; exact h7 d hd
  · rw [hA 3 (Or.inr (by decide))]
    intro d hd
    rw [z_sIa _ _ _ _ (fun e => hmo.2.2 e.symm)]; exact h8 d hd
  · rw [hA 3 (Or.inr (by decide))]; exact h9
/-- a FAULT ends it -/
theorem z_ST.ff (C : z_YC R M M') (Y : z_YN N N') (F : z_FF M' N') : z_ST T n R A M N 0 M' N' := ⟨C, Y, Or.inr (Or.inl ⟨rfl, F⟩)⟩
theorem z_FF.st {i k : Nat} {v : Int32} (h : z_FF M N) (hi : i ≠ 366) : z_FF M (sI N i k v) := h.to ⟨rfl, rfl⟩ (by rw [z_sIa _ _ _ _ (fun e => hi e.symm)]) (by rw [z_sIa _ _ _ _ (fun e => hi e.symm)])
/-! a NAME more -/
def z_un1 (nm : Nat → Nat → Nat) (r0 : Nat) (f : Nat → Nat) : Nat → Nat → Nat := fun r k => if r = r0 then f k else nm r k
def z_nf1 (f : Nat → Nat) : Prop := 1 ≤ f 6 ∧ f 6 ≤ 6 ∧ ∀ k, k < 6 → f k < 27 ∧ (f k = 0 ↔ f 6 ≤ k)
theorem z_un1s (nm : Nat → Nat → Nat) (r0 : Nat) (f : Nat → Nat) : z_un1 nm r0 f r0 = f := funext fun _ => if_pos rfl
theorem z_un1n (nm : Nat → Nat → Nat) (r0 : Nat) (f : Nat → Nat) {r : Nat} (h : r ≠ r0) : z_un1 nm r0 f r = nm r := funext fun _ => if_neg h
theorem z_slot {A' : ZA} {i : Nat} (h8 : z_nA A) (hf : A 0 (3 + i) < 8) (hA : A' 0 (3 + i) = A 0 (3 + i) + 1) (hA2 : ∀ j, j < 3 → j ≠ i → A' 0 (3 + j) = A 0 (3 + j)) {j w : Nat} (hj : j < 3) (hw : w < A' 0 (3 + j)) :
    (j = i ∧ w = A 0 (3 + i)) ∨ (w < A 0 (3 + j) ∧ 8 * j + w ≠ 8 * i + A 0 (3 + i)) := by
  by_cases e : j = i
  · subst e
    rw [hA] at hw
    by_cases e2 : w = A 0 (3 + j)
    · exact Or.inl ⟨rfl, e2⟩
    · exact Or.inr ⟨by omega, by omega⟩
  · rw [hA2 j hj e] at hw
    have := h8 j hj
    exact Or.inr ⟨hw, by omega⟩
theorem z_names {A' : ZA} {i : Nat} {f : Nat → Nat} (h8 : z_nA A) (hf : A 0 (3 + i) < 8) (hA : A' 0 (3 + i) = A 0 (3 + i) + 1) (hA2 : ∀ j, j < 3 → j ≠ i → A' 0 (3 + j) = A 0 (3 + j)) (hi : i < 3)
    (hC : z_nC R A nm M) (hN : z_nM A nm N) (hk : z_nk A nm) (hf1 : z_nf1 f)
    (g1 : ∀ k, k < 6 → M'.1 (R + 6 + (8 * i + A 0 (3 + i))) k = nI (if f k = 0 then 0 else f k + 96)) (g2 : ∀ r, r < 24 → r ≠ 8 * i + A 0 (3 + i) → M'.1 (R + 6 + r) = M.1 (R + 6 + r))
    (g3 : N'.2 386 (8 * i + A 0 (3 + i)) = lN (z_it (fun k v => 27 * v + f k) (f 6) 0)) (g4 : ∀ r, r < 24 → r ≠ 8 * i + A 0 (3 + i) → N'.2 386 r = N.2 386 r) :
    z_nC R A' (z_un1 nm (8 * i + A 0 (3 + i)) f) M' ∧ z_nM A' (z_un1 nm (8 * i + A 0 (3 + i)) f) N' ∧ z_nk A' (z_un1 nm (8 * i + A 0 (3 + i)) f) := by
  refine ⟨fun j w hj hw k hk' => ?_, fun j w hj hw => ?_, fun j w hj hw => ?_⟩
  · rcases z_slot h8 hf hA hA2 hj hw with ⟨rfl, rfl⟩ | ⟨h1, h2⟩
    · rw [z_un1s]; exact g1 k hk'
    · have := h8 j hj
      rw [z_un1n _ _ _ h2, g2 _ (by omega) h2]; exact hC j w hj h1 k hk'
  · unfold z_EN
    rcases z_slot h8 hf hA hA2 hj hw with ⟨rfl, rfl⟩ | ⟨h1, h2⟩
    · rw [z_un1s]; exact g3
    · have := h8 j hj
      rw [z_un1n _ _ _ h2, g4 _ (by omega) h2]; exact hN j w hj h1
  · rcases z_slot h8 hf hA hA2 hj hw with ⟨rfl, rfl⟩ | ⟨h1, h2⟩
    · rw [z_un1s]; exact hf1
    · rw [z_un1n _ _ _ h2]; exact hk j w hj h1
/-- a NAME, both -/
theorem g_name (hw : z_wt n T) (h : z_BT T n b M N) (hK : z_KW N) (hQ : z_QB R A nm P M N) {i : Nat} (hi : i < 3) (hf : A 0 (3 + i) < 8) :
    z2 (f_Or_takeName 107 (nI i) M) (f_Mo_newName 366 N) (fun q r => z_LX N r.2 ∧
      ((q.1 = 1 ∧ z_BT T n (z_en T n b) q.2 r.2 ∧ z_SF M q.2 ∧ z_Fr (fun j => j ≠ 3 ∧ j ≠ 4 ∧ j ≠ R + 6 + (8 * i + A 0 (3 + i))) M q.2 ∧ ∃ f, z_nf1 f ∧ (∀ k, k < 6 → q.2.1 (R + 6 + (8 * i + A 0 (3 + i))) k = nI (if f k = 0 then 0 else f k + 96)) ∧ r.1 = lN (z_it (fun k v => 27 * v + f k) (f 6) 0)) ∨
       (q.1 = 0 ∧ z_FF q.2 r.2 ∧ z_RE M q.2 ∧ z_av n r.2))) := by
  obtain ⟨hm, hR, hT, a', hF⟩ := h
  obtain ⟨h1, h2, h3, h4, h5, h6, h7, h8, h9⟩ := hQ
  have hn8 := h3.nA rfl
  have hO := h3.oc rfl
  have hM3 : ∀ j, j < 3 → N.1 385 j = nI (A 0 (3 + j)) := fun j hj => by
    have q := (h3 0 (3 + j) (by decide) (by omega) (show 3 + j < 7 by omega)).2.1
    have e1 : z_mo 0 (3 + j) = 385 := by
      match j, hj with
      | 0, _ => rfl
      | 1, _ => rfl
      | 2, _ => rfl
    have e2 : z_mp 0 (3 + j) = j := by
      match j, hj with
      | 0, _ => rfl
      | 1, _ => rfl
      | 2, _ => rfl
    rw [e1, e2] at q
    exact q
  obtain ⟨r, em, m1, m2⟩ := m_newName hw hm hF hK hM3 h5 hn8 h6
  have av := p_newName hw hm hF hK em
  obtain ⟨q, ec, c2⟩ := c_name h1 h2 hO h4 hw hT hm.1 hR h6 hn8 hi hf
  refine ⟨q, r, ec, em, m1, ?_⟩
  rcases c2 with ⟨y, e, r1, r2, r3, r4⟩ | ⟨f, p, y, f0, f1, e, r1, r2⟩
  · rcases m2 with ⟨_, m2, m3⟩ | ⟨f', p', x, _⟩
    · obtain ⟨y1, y2, y3, y4⟩ := y
      have g := z_nl_s hw y1 y3 hm.1
      have gc := fun k => z_nl_c hw y1 y3 hm.1 k
      refine Or.inl ⟨e, ⟨(z_en_s hm.1).2.2.2, r1, hT.fr (r3.1 1 ⟨by decide, by decide, by omega⟩) (r3.1 2 ⟨by decide, by decide, by omega⟩), _, m3⟩, r2, r3, (fun k => if k = 6 then z_en T n b - z_sk T n b else z_nl T n b k), ⟨?_, ?_, fun k hk => ?_⟩, fun k hk => ?_, ?_⟩
      · exact g.2.2
      · exact y3
      · show (if k = 6 then _ else _) < 27 ∧ ((if k = 6 then _ else _) = 0 ↔ z_en T n b - z_sk T n b ≤ k)
        rw [if_neg (by omega)]; exact (gc k).2
      · show _ = nI (if (if k = 6 then _ else _) = 0 then 0 else (if k = 6 then _ else _) + 96)
        simp only [if_neg (show ¬ k = 6 by omega)]; exact r4 k hk
      · rw [m2]
        show lN (z_it _ _ _) = lN (z_it _ (z_en T n b - z_sk T n b) _)
        refine congrArg lN (z_it_eq (fun k hk => ?_))
        show T (z_sk T n b + k) - 96 = if k = 6 then _ else z_nl T n b k
        rw [if_neg (by omega)]
        unfold z_nl
        rw [(g.1 k hk).1]
    · exact absurd y (fun y => z_nx_y x y)
  · rcases m2 with ⟨x, _⟩ | ⟨f', p', x, x0, x1, m3⟩
    · exact absurd x (fun x => z_nx_y y x)
    · obtain ⟨rfl, rfl⟩ := z_nx_f y x
      exact Or.inr ⟨e, ⟨f, p, r1, f0, f1, m3⟩, r2, av⟩
end
