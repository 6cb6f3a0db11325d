/-! ===== pure: the first state ===== -/
def l_c0 (M : SM) : Bool :=
  decide (jop (M.1 0 8) = 7) && decide (jop (M.1 0 9) = 57) && decide (M.1 0 11 = 0) && decide (M.1 0 14 = 0) && decide (M.2 0 12 = 1) &&
  decide (M.1 1 1 = 0) && decide (M.1 3 5 = M.1 366 7) && decide (M.1 3 6 = M.1 366 8) &&
  decide (M.1 7 1 = 0) && decide (M.1 7 2 = 0) && decide (M.1 7 3 = 99) && decide (M.1 7 4 = 0) && decide (M.1 37 2 = 0) && decide (M.1 40 2 = 0) && decide (M.1 43 2 = 0) &&
  decide (M.1 108 4 = 0) && decide (M.1 108 3 = 0) &&
  decide (M.1 366 1 = 0) && decide (M.1 366 31 = 0) && decide (M.1 366 47 = 0) && decide (M.1 366 48 = -1) && decide (M.1 366 50 = -1) && decide (M.1 366 63 = 0) && decide (M.1 366 64 = 0) && decide (M.1 366 65 = 0) && decide (M.1 366 99 = 0) && decide (M.2 366 67 = 1) &&
  decide (M.1 395 1 = 0) && decide (M.1 385 4 = 0) && decide (M.1 385 5 = 0) && decide (M.1 385 6 = 0) && decide (M.1 385 7 = 0) && decide (M.1 396 1 = 0 ∨ M.1 396 1 = 99) &&
  z_wl.all (fun p => (List.range p.2.length).all fun i => decide (M.1 (jpf 366 p.1) i = nI (p.2.getD i 0)))
theorem l_first : l_c0 lawM = true := by decide +kernel
theorem l_start : y_LP lawM lawM := by
  have h := l_first
  generalize lawM = M at h
  unfold l_c0 at h
  simp only [Bool.and_eq_true, decide_eq_true_eq] at h
  obtain ⟨⟨⟨⟨⟨⟨⟨⟨⟨⟨⟨⟨⟨⟨⟨⟨⟨⟨⟨⟨⟨⟨⟨⟨⟨⟨⟨⟨⟨⟨⟨⟨⟨a1, a2⟩, a3⟩, a4⟩, a5⟩, b1⟩, b2⟩, b3⟩, c1⟩, c2⟩, c3⟩, c4⟩, c5⟩, c6⟩, c7⟩, d1⟩, d2⟩, e1⟩, e2⟩, e3⟩, e4⟩, e5⟩, e6⟩, e7⟩, e8⟩, e9⟩, f1⟩, f2⟩, f3⟩, f4⟩, f5⟩, f6⟩, f7⟩, kw⟩ := h
  have A0 : ∀ i k, z_A0 0 i k = if i = 0 ∧ k = 2 then 99 else 0 := fun i k => by
    unfold z_A0
    by_cases i0 : i = 0
    · subst i0
      rw [if_pos rfl]
      by_cases k0 : k = 0
      · subst k0; rfl
      · rw [if_neg k0]
        by_cases k2 : k = 2
        · subst k2; rfl
        · rw [if_neg k2, if_neg (fun q => k2 q.2)]
    · rw [if_neg i0, if_neg (fun q => i0 q.1)]
  have z00 : z_A0 0 0 0 = 0 := rfl
  have z03 : z_A0 0 0 3 = 0 := rfl
  have z04 : z_A0 0 0 4 = 0 := rfl
  have z05 : z_A0 0 0 5 = 0 := rfl
  have z06 : z_A0 0 0 6 = 0 := rfl
  have zi : ∀ i, i < 3 → z_A0 0 0 (3 + i) = 0 := by decide
  refine ⟨7, 57, z_A0 0, fun _ _ => 0, (fun _ => 0, fun _ _ => 0), fun _ => (fun _ => 0, fun _ _ => 0), 0, 0, fun _ => 0, 0, fun _ => 0, 1, 0, ⟨⟨?_, fun d hd => ?_, fun h => ?_, fun _ => ⟨rfl, rfl, rfl, rfl⟩, fun i w hi hw => ?_⟩, ⟨Or.inl rfl, a1, ?_, fun d hd => ?_, fun h => ?_, fun i w hi hw => ?_⟩, ⟨?_, fun d hd => ?_, fun h => ?_, ⟨e3, e4, e5⟩, fun i w hi hw => ?_⟩, rfl, fun j hj d hd => ?_, ⟨by decide, d1, 0, by decide, d2, fun j hj => by omega⟩, ⟨by decide, e6, 0, by decide, e7, fun j hj => by omega⟩⟩, ⟨z_wt0, ⟨b1, fun k hk => by omega⟩, ⟨e1, fun k hk => by omega⟩, b2, b3⟩, ⟨⟨by decide, fun _ => rfl, a3, e8, fun q => by cases q⟩, ⟨by decide, a5, f1⟩, ⟨by decide, a4, e9, fun j hj => by omega⟩, ?_, a2, Or.inr rfl, by decide⟩⟩
  · refine ⟨by decide, by decide, by decide, by decide, by decide, by decide, by decide, fun c hc => ?_, fun c hc => ?_, fun c hc => ?_, fun c hc => ?_, fun c hc => ?_⟩
    · rw [z00] at hc; omega
    · rw [z03] at hc; omega
    · rw [z04] at hc; omega
    · rw [z05] at hc; omega
    · rw [z06] at hc; omega
  · rw [z03] at hd; omega
  · rw [z00] at h; omega
  · rw [zi i hi] at hw; omega
  · refine ⟨c1, c2, c3, c4, c5, c6, c7, fun c hc => ?_, fun c hc => ?_, fun c hc => ?_, fun c hc => ?_, fun c hc => ?_⟩
    · rw [z00] at hc; omega
    · rw [z03] at hc; omega
    · rw [z04] at hc; omega
    · rw [z05] at hc; omega
    · rw [z06] at hc; omega
  · rw [z03] at hd; omega
  · rw [z00] at h; omega
  · rw [zi i hi] at hw; omega
  · refine ⟨e2, f2, ?_, f3, f4, f5, f6, fun c hc => ?_, fun c hc => ?_, fun c hc => ?_, fun c hc => ?_, fun c hc => ?_⟩
    · rcases f7 with q | q
      · exact Or.inr ⟨rfl, rfl, q⟩
      · exact Or.inl q
    · rw [z00] at hc; omega
    · rw [z03] at hc; omega
    · rw [z04] at hc; omega
    · rw [z05] at hc; omega
    · rw [z06] at hc; omega
  · rw [z03] at hd; omega
  · rw [z00] at h; omega
  · rw [zi i hi] at hw; omega
  · rw [z03] at hd; omega
  · intro p hp i hi
    have h1 := List.all_eq_true.mp kw p hp
    have h2 := List.all_eq_true.mp h1 i (List.mem_range.mpr hi)
    exact of_decide_eq_true h2
/-- the law holds in the world of numbers -/
theorem l_pure : ∀ (scr : Nat → Int32) (L : Nat), L ≤ 3072 → ∃ M', f_Law scr L lawM = some (1, M') := fun _ _ hL => l_law hL l_start
