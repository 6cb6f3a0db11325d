/-! ===== pure: what a QUESTION answers, both ===== -/
def y_t1 (v : Nat → Int32) : Nat → Int32 × Int32 × Int32
  | 0 => (-1, -1, 0)
  | i + 1 => if v i = 0 then y_t1 v i else (if (y_t1 v i).2.2 = 0 then nI i else (y_t1 v i).1, nI i, (y_t1 v i).2.2 + 1)
def y_s1 (v : Nat → Int32) : Nat → Int64 × Int32 × Int32
  | 0 => (0, v 0, v 0)
  | i + 1 => ((y_s1 v i).1 + (v i).toInt64, jmax (y_s1 v i).2.1 (v i), jmin (y_s1 v i).2.2 (v i))
def y_an (kind : Nat) (v : Nat → Int32) (i : Nat) : Int64 := if kind = 0 then (y_t1 v i).1.toInt64 else if kind = 1 then (y_t1 v i).2.1.toInt64 else if kind = 2 then (y_t1 v i).2.2.toInt64 else if kind = 3 then (y_s1 v i).1 else if kind = 4 then (y_s1 v i).2.1.toInt64 else (y_s1 v i).2.2.toInt64
def y_tk (kind : Nat) (w : Int64) (i : Nat) (a : Int64) (new : Int32) : Int64 := if kind = 0 then (if w = 1 then (if a = -1 then (nI i).toInt64 else a) else a) else if kind = 1 then (if w = 1 then (nI i).toInt64 else a) else if kind = 2 then (if w = 1 then a + 1 else a) else if kind = 3 then a + w else if kind = 4 then (if new = 0 then (if a < w then w else a) else w) else (if new = 0 then (if w < a then w else a) else w)
def y_Z2 (N N' : SM) : Prop := (∀ i, i ≠ 366 → N'.1 i = N.1 i) ∧ (∀ k, k ≠ 95 → k ≠ 97 → N'.1 366 k = N.1 366 k) ∧ (∀ i, i ≠ 428 → i ≠ 366 → N'.2 i = N.2 i) ∧ ∀ k, k ≠ 96 → N'.2 366 k = N.2 366 k
section
variable {A : ZA} {nm : Nat → Nat → Nat} {P : ZP} {M N N' N'' : SM} {i kind : Nat} {v : Nat → Int32} {w : Int64}
theorem y_Z2.rf : y_Z2 N N := ⟨fun _ _ => rfl, fun _ _ _ => rfl, fun _ _ _ => rfl, fun _ _ => rfl⟩
theorem y_Z2.tr (h : y_Z2 N N') (k : y_Z2 N' N'') : y_Z2 N N'' := ⟨fun i a => (k.1 i a).trans (h.1 i a), fun i a b => (k.2.1 i a b).trans (h.2.1 i a b), fun i a b => (k.2.2.1 i a b).trans (h.2.2.1 i a b), fun i a => (k.2.2.2 i a).trans (h.2.2.2 i a)⟩
theorem y_Z.z2 (h : y_Z N N') : y_Z2 N N' := ⟨h.1, fun k a _ => h.2.1 k a, fun i a _ => h.2.2 i a, fun k _ => by rw [h.2.2 366 (by decide)]⟩
theorem y_Z2.s {x : Int32} (h : y_Z2 N N') : y_Z2 N (sI N' 366 97 x) := ⟨fun i a => by rw [z_sIa _ _ _ _ a]; exact h.1 i a, fun k a b => by rw [z_sIk _ _ _ _ b]; exact h.2.1 k a b, h.2.2.1, h.2.2.2⟩
theorem y_Z2.l {x : Int64} (h : y_Z2 N N') : y_Z2 N (sL N' 366 96 x) := ⟨h.1, h.2.1, fun i a b => by
  rw [← h.2.2.1 i a b]; funext j; exact (z_sL _ _ _ _ _ _).trans (if_neg b), fun k a => by
  rw [← h.2.2.2 k a]; exact (z_sL _ _ _ _ _ _).trans (by rw [if_pos rfl, if_neg a])⟩
theorem m_takesQ (hk : kind < 6) : z_ok (f_Mo_qTakes 366 (nI kind) w (nI i) N) (fun N' => N'.2 366 96 = y_tk kind w i (N.2 366 96) (N.1 366 97) ∧ N'.1 366 97 = 0 ∧ y_Z2 N N') := by
  have set : ∀ {x : Int64}, x = y_tk kind w i (N.2 366 96) (N.1 366 97) → z_ok (some (sI (sL N 366 96 x) 366 97 0)) (fun N' => N'.2 366 96 = y_tk kind w i (N.2 366 96) (N.1 366 97) ∧ N'.1 366 97 = 0 ∧ y_Z2 N N') := fun {x} e => z_some ⟨by show (sL N 366 96 x).2 366 96 = _; rw [z_sLs]; exact e, z_sIs _ _ _ _, y_Z2.rf.l.s⟩
  have non : N.2 366 96 = y_tk kind w i (N.2 366 96) (N.1 366 97) → z_ok (some (sI N 366 97 0)) (fun N' => N'.2 366 96 = y_tk kind w i (N.2 366 96) (N.1 366 97) ∧ N'.1 366 97 = 0 ∧ y_Z2 N N') := fun e => z_some ⟨e, z_sIs _ _ _ _, y_Z2.rf.s⟩
  have : kind = 0 ∨ kind = 1 ∨ kind = 2 ∨ kind = 3 ∨ kind = 4 ∨ kind = 5 := by omega
  unfold f_Mo_qTakes
  rcases this with rfl | rfl | rfl | rfl | rfl | rfl
  · rw [if_pos (show nI 0 < 3 by decide)]
    by_cases w1 : w = 1
    · rw [if_pos w1]
      simp only [Option.bind_some]
      rw [if_pos (show nI 0 = 0 from rfl), if_neg z_10]
      by_cases a1 : N.2 366 96 = -1
      · rw [if_pos a1]
        simp only [Option.bind_some]
        rw [if_neg (show ¬ nI 0 = 2 by decide)]
        simp only [Option.bind_some]
        rw [if_neg (show ¬ nI 0 = 3 by decide)]
        simp only [Option.bind_some]
        rw [if_neg (show ¬ 3 < nI 0 by decide)]
        exact set (by unfold y_tk; rw [if_pos rfl, if_pos w1, if_pos a1])
      · rw [if_neg a1, if_neg (show ¬ nI 0 = 1 by decide)]
        simp only [Option.bind_some]
        rw [if_neg (show ¬ nI 0 = 2 by decide)]
        simp only [Option.bind_some]
        rw [if_neg (show ¬ nI 0 = 3 by decide)]
        simp only [Option.bind_some]
        rw [if_neg (show ¬ 3 < nI 0 by decide)]
        exact non (by unfold y_tk; rw [if_pos rfl, if_pos w1, if_neg a1])
    · rw [if_neg w1]
      simp only [Option.bind_some]
      rw [if_pos (show nI 0 = 0 from rfl), if_pos trivial, if_neg (show ¬ nI 0 = 1 by decide)]
      simp only [Option.bind_some]
      rw [if_neg (show ¬ nI 0 = 2 by decide)]
      simp only [Option.bind_some]
      rw [if_neg (show ¬ nI 0 = 3 by decide)]
      simp only [Option.bind_some]
      rw [if_neg (show ¬ 3 < nI 0 by decide)]
      exact non (by unfold y_tk; rw [if_pos rfl, if_neg w1])
  · rw [if_pos (show nI 1 < 3 by decide)]
    by_cases w1 : w = 1
    · rw [if_pos w1]
      simp only [Option.bind_some]
      rw [if_neg (show ¬ nI 1 = 0 by decide), if_pos (show nI 1 = 1 from rfl), if_neg z_10]
      simp only [Option.bind_some]
      rw [if_neg (show ¬ nI 1 = 2 by decide)]
      simp only [Option.bind_some]
      rw [if_neg (show ¬ nI 1 = 3 by decide)]
      simp only [Option.bind_some]
      rw [if_neg (show ¬ 3 < nI 1 by decide)]
      exact set (by unfold y_tk; rw [if_neg (by decide), if_pos rfl, if_pos w1])
    · rw [if_neg w1]
      simp only [Option.bind_some]
      rw [if_neg (show ¬ nI 1 = 0 by decide), if_pos (show nI 1 = 1 from rfl), if_pos trivial]
      simp only [Option.bind_some]
      rw [if_neg (show ¬ nI 1 = 2 by decide)]
      simp only [Option.bind_some]
      rw [if_neg (show ¬ nI 1 = 3 by decide)]
      simp only [Option.bind_some]
      rw [if_neg (show ¬ 3 < nI 1 by decide)]
      exact non (by unfold y_tk; rw [if_neg (by decide), if_pos rfl, if_neg w1])
  · rw [if_pos (show nI 2 < 3 by decide)]
    by_cases w1 : w = 1
    · rw [if_pos w1]
      simp only [Option.bind_some]
      rw [if_neg (show ¬ nI 2 = 0 by decide), if_neg (show ¬ nI 2 = 1 by decide)]
      simp only [Option.bind_some]
      rw [if_pos (show nI 2 = 2 from rfl), if_neg z_10]
      simp only [Option.bind_some]
      rw [if_neg (show ¬ nI 2 = 3 by decide)]
      simp only [Option.bind_some]
      rw [if_neg (show ¬ 3 < nI 2 by decide)]
      exact set (by unfold y_tk; rw [if_neg (by decide), if_neg (by decide), if_pos rfl, if_pos w1])
    · rw [if_neg w1]
      simp only [Option.bind_some]
      rw [if_neg (show ¬ nI 2 = 0 by decide), if_neg (show ¬ nI 2 = 1 by decide)]
      simp only [Option.bind_some]
      rw [if_pos (show nI 2 = 2 from rfl), if_pos trivial]
      simp only [Option.bind_some]
      rw [if_neg (show ¬ nI 2 = 3 by decide)]
      simp only [Option.bind_some]
      rw [if_neg (show ¬ 3 < nI 2 by decide)]
      exact non (by unfold y_tk; rw [if_neg (by decide), if_neg (by decide), if_pos rfl, if_neg w1])
  · rw [if_neg (show ¬ nI 3 < 3 by decide)]
    simp only [Option.bind_some]
    rw [if_neg (show ¬ nI 3 = 0 by decide), if_neg (show ¬ nI 3 = 1 by decide)]
    simp only [Option.bind_some]
    rw [if_neg (show ¬ nI 3 = 2 by decide)]
    simp only [Option.bind_some]
    rw [if_pos (show nI 3 = 3 from rfl)]
    simp only [Option.bind_some]
    rw [if_neg (show ¬ 3 < nI 3 by decide)]
    exact set (by unfold y_tk; rw [if_neg (by decide), if_neg (by decide), if_neg (by decide), if_pos rfl])
  · rw [if_neg (show ¬ nI 4 < 3 by decide)]
    simp only [Option.bind_some]
    rw [if_neg (show ¬ nI 4 = 0 by decide), if_neg (show ¬ nI 4 = 1 by decide)]
    simp only [Option.bind_some]
    rw [if_neg (show ¬ nI 4 = 2 by decide)]
    simp only [Option.bind_some]
    rw [if_neg (show ¬ nI 4 = 3 by decide)]
    simp only [Option.bind_some]
    rw [if_pos (show 3 < nI 4 by decide)]
    by_cases n0 : N.1 366 97 = 0
    · rw [if_pos n0, if_pos (show nI 4 = 4 from rfl)]
      by_cases l : N.2 366 96 < w
      · rw [if_pos l]
        exact set (by unfold y_tk; rw [if_neg (by decide), if_neg (by decide), if_neg (by decide), if_neg (by decide), if_pos rfl, if_pos n0, if_pos l])
      · rw [if_neg l]
        exact non (by unfold y_tk; rw [if_neg (by decide), if_neg (by decide), if_neg (by decide), if_neg (by decide), if_pos rfl, if_pos n0, if_neg l])
    · rw [if_neg n0]
      exact set (by unfold y_tk; rw [if_neg (by decide), if_neg (by decide), if_neg (by decide), if_neg (by decide), if_pos rfl, if_neg n0])
  · rw [if_neg (show ¬ nI 5 < 3 by decide)]
    simp only [Option.bind_some]
    rw [if_neg (show ¬ nI 5 = 0 by decide), if_neg (show ¬ nI 5 = 1 by decide)]
    simp only [Option.bind_some]
    rw [if_neg (show ¬ nI 5 = 2 by decide)]
    simp only [Option.bind_some]
    rw [if_neg (show ¬ nI 5 = 3 by decide)]
    simp only [Option.bind_some]
    rw [if_pos (show 3 < nI 5 by decide)]
    by_cases n0 : N.1 366 97 = 0
    · rw [if_pos n0, if_neg (show ¬ nI 5 = 4 by decide)]
      by_cases l : w < N.2 366 96
      · rw [if_pos l]
        exact set (by unfold y_tk; rw [if_neg (by decide), if_neg (by decide), if_neg (by decide), if_neg (by decide), if_neg (by decide), if_pos n0, if_pos l])
      · rw [if_neg l]
        exact non (by unfold y_tk; rw [if_neg (by decide), if_neg (by decide), if_neg (by decide), if_neg (by decide), if_neg (by decide), if_pos n0, if_neg l])
    · rw [if_neg n0]
      exact set (by unfold y_tk; rw [if_neg (by decide), if_neg (by decide), if_neg (by decide), if_neg (by decide), if_neg (by decide), if_neg n0])
/-- the class's answers -/
theorem c_cell0 (hR : y_R 0 v M) (hi : i < 61) : f_Sp_cellOf 323 0 (nI i) M = some (v i) := by
  rw [zl_0, zc_323 _ (by decide) hi]
  exact congrArg some (hR i hi)
theorem c_tellTest (hR : y_R 0 v M) (hk : kind < 3) : f_Qu_tellTest 322 (nI kind) M = some (y_an kind v 61) := by
  unfold f_Qu_tellTest
  have run : z_ok (lp_Qu_tellTest_10 322 M jfuel (-1) (-1) 0 (nI 0)) (fun r => r = y_t1 v 61) := by
    refine z_loop (σ := Int32 × Int32 × Int32) (fun m c s => lp_Qu_tellTest_10 322 M m s.1 s.2.1 s.2.2 c) (fun c s => s = y_t1 v c) _ 61 ?_ ?_ jfuel 0 (-1, -1, 0) (Nat.zero_le _) (by rw [z_jf]; omega) rfl
    · intro m c s hc hs k
      subst hs
      show z_ok (lp_Qu_tellTest_10 322 M (m + 1) _ _ _ (nI c)) _
      rw [lp_Qu_tellTest_10, if_neg (z_jfl c hc), jp_322_2, c_cell0 hR hc]
      simp only [Option.bind_some]
      have key : (if v c = 0 then (some ((y_t1 v c).1, (y_t1 v c).2.1, (y_t1 v c).2.2)) else ((if (y_t1 v c).2.2 = 0 then (some (nI c)) else (some (y_t1 v c).1) : Option (Int32)).bind fun q5 => some (q5, nI c, (y_t1 v c).2.2 + 1)) : Option (Int32 × Int32 × Int32)) = some (y_t1 v (c + 1)) := by
        rw [y_t1]
        by_cases e : v c = 0
        · rw [if_pos e, if_pos e]
        · rw [if_neg e, if_neg e]
          by_cases f : (y_t1 v c).2.2 = 0
          · rw [if_pos f, if_pos f]; rfl
          · rw [if_neg f, if_neg f]; rfl
      rw [key, nI_1]
      exact k _ rfl
    · intro m s hs
      subst hs
      show z_ok (lp_Qu_tellTest_10 322 M (m + 1) _ _ _ (nI 61)) _
      rw [lp_Qu_tellTest_10, if_pos (by decide)]
      exact z_some rfl
  obtain ⟨r, e, rfl⟩ := run
  rw [zl_0] at *
  rw [e]
  simp only [Option.bind_some]
  have : kind = 0 ∨ kind = 1 ∨ kind = 2 := by omega
  rcases this with rfl | rfl | rfl
  · rw [if_pos (by decide)]; rfl
  · rw [if_neg (by decide), if_pos (by decide)]; rfl
  · rw [if_neg (by decide), if_neg (by decide)]; rfl
theorem c_tellSum (hR : y_R 0 v M) (hk : 3 ≤ kind) (h6 : kind < 6) : f_Qu_tellSum 322 (nI kind) M = some (y_an kind v 61) := by
  unfold f_Qu_tellSum
  have run : z_ok (lp_Qu_tellSum_20 322 M jfuel 0 (v 0) (v 0) (nI 0)) (fun r => r = y_s1 v 61) := by
    refine z_loop (σ := Int64 × Int32 × Int32) (fun m c s => lp_Qu_tellSum_20 322 M m s.1 s.2.1 s.2.2 c) (fun c s => s = y_s1 v c) _ 61 ?_ ?_ jfuel 0 (0, v 0, v 0) (Nat.zero_le _) (by rw [z_jf]; omega) rfl
    · intro m c s hc hs k
      subst hs
      show z_ok (lp_Qu_tellSum_20 322 M (m + 1) _ _ _ (nI c)) _
      rw [lp_Qu_tellSum_20, if_neg (z_jfl c hc), jp_322_2, c_cell0 hR hc]
      simp only [Option.bind_some]
      rw [nI_1]
      exact k (y_s1 v (c + 1)) rfl
    · intro m s hs
      show z_ok (lp_Qu_tellSum_20 322 M (m + 1) _ _ _ (nI 61)) _
      rw [lp_Qu_tellSum_20, if_pos (by decide)]
      exact z_some (show (s.1, s.2.1, s.2.2) = y_s1 v 61 from hs)
  obtain ⟨r, e, rfl⟩ := run
  have c0 : f_Sp_cellOf 323 0 0 M = some (v 0) := c_cell0 hR (i := 0) (by decide)
  rw [jp_322_2, c0]
  simp only [Option.bind_some]
  have e : lp_Qu_tellSum_20 322 M jfuel 0 (v 0) (v 0) 0 = some (y_s1 v 61) := e
  rw [e]
  simp only [Option.bind_some]
  have : kind = 3 ∨ kind = 4 ∨ kind = 5 := by omega
  rcases this with rfl | rfl | rfl
  · rw [if_pos (by decide)]; rfl
  · rw [if_neg (by decide), if_pos (by decide)]; rfl
  · rw [if_neg (by decide), if_neg (by decide)]; rfl
/-- the reference's, step by step -/
theorem y_t1_s : ∀ i, i ≤ 61 → ∃ c, c ≤ i ∧ (y_t1 v i).2.2 = nI c ∧ ((c = 0 ∧ (y_t1 v i).1 = -1) ∨ (0 < c ∧ ∃ f, f < 61 ∧ (y_t1 v i).1 = nI f))
  | 0, _ => ⟨0, Nat.le_refl _, rfl, Or.inl ⟨rfl, rfl⟩⟩
  | i + 1, h => by
    obtain ⟨c, hc, e, h1⟩ := y_t1_s i (by omega)
    rw [y_t1]
    by_cases q : v i = 0
    · rw [if_pos q]; exact ⟨c, by omega, e, h1⟩
    · rw [if_neg q]
      refine ⟨c + 1, by omega, ?_, Or.inr ⟨by omega, ?_⟩⟩
      · show (y_t1 v i).2.2 + 1 = _
        rw [e, nI_1]
      · show ∃ f, f < 61 ∧ (if (y_t1 v i).2.2 = 0 then nI i else (y_t1 v i).1) = nI f
        rcases h1 with ⟨c0, _⟩ | ⟨c0, f, hf, ef⟩
        · rw [if_pos (by rw [e, c0]; rfl)]; exact ⟨i, by omega, rfl⟩
        · rw [if_neg (by rw [e]; exact nI_ne0 c0 (by omega))]; exact ⟨f, hf, ef⟩
theorem y_tk_s (hi : i < 61) (hk : kind < 6) (h01 : kind < 3 → y_01 (v i)) {a : Int64} {new : Int32} (ha : (kind < 4 ∨ 0 < i) → a = y_an kind v i) (hn : new = if i = 0 then 1 else 0) : y_tk kind (v i).toInt64 i a new = y_an kind v (i + 1) := by
  have one : ∀ x : Int32, x.toInt64 = 1 ↔ x = 1 := fun x => y_eq x 1
  have : kind = 0 ∨ kind = 1 ∨ kind = 2 ∨ kind = 3 ∨ kind = 4 ∨ kind = 5 := by omega
  obtain ⟨c, hc, ec, h1⟩ := y_t1_s (v := v) i (by omega)
  rcases this with rfl | rfl | rfl | rfl | rfl | rfl
  · rw [ha (by omega)]
    show (if (v i).toInt64 = 1 then (if (y_t1 v i).1.toInt64 = -1 then (nI i).toInt64 else (y_t1 v i).1.toInt64) else (y_t1 v i).1.toInt64) = (y_t1 v (i + 1)).1.toInt64
    rw [y_t1]
    rcases h01 (by decide) with q | q
    · rw [if_neg (by rw [one, q]; decide), if_pos q]
    · rw [if_pos (by rw [one, q]), if_neg (show ¬ v i = 0 by rw [q]; decide)]
      show _ = (if (y_t1 v i).2.2 = 0 then nI i else (y_t1 v i).1).toInt64
      rcases h1 with ⟨c0, e⟩ | ⟨c0, f, hf, ef⟩
      · rw [if_pos (by rw [e]; rfl), if_pos (by rw [ec, c0]; rfl)]
      · rw [if_neg (by rw [show (-1 : Int64) = (-1 : Int32).toInt64 from rfl, y_eq, ef]; exact z_neg1 (n := f) (by omega)), if_neg (by rw [ec]; exact nI_ne0 c0 (by omega))]
  · rw [ha (by omega)]
    show (if (v i).toInt64 = 1 then (nI i).toInt64 else (y_t1 v i).2.1.toInt64) = (y_t1 v (i + 1)).2.1.toInt64
    rw [y_t1]
    rcases h01 (by decide) with q | q
    · rw [if_neg (by rw [one, q]; decide), if_pos q]
    · rw [if_pos (by rw [one, q]), if_neg (show ¬ v i = 0 by rw [q]; decide)]
  · rw [ha (by omega)]
    show (if (v i).toInt64 = 1 then (y_t1 v i).2.2.toInt64 + 1 else (y_t1 v i).2.2.toInt64) = (y_t1 v (i + 1)).2.2.toInt64
    rw [y_t1]
    rcases h01 (by decide) with q | q
    · rw [if_neg (by rw [one, q]; decide), if_pos q]
    · rw [if_pos (by rw [one, q]), if_neg (show ¬ v i = 0 by rw [q]; decide)]
      show _ = ((y_t1 v i).2.2 + 1).toInt64
      rw [ec, nI_1, nI_l (by omega), nI_l (by omega), lN_1]
  · rw [ha (by omega)]; rfl
  · show (if new = 0 then (if a < (v i).toInt64 then (v i).toInt64 else a) else (v i).toInt64) = (jmax (y_s1 v i).2.1 (v i)).toInt64
    unfold jmax
    by_cases i0 : i = 0
    · subst i0
      rw [hn, if_pos rfl, if_neg z_10]
      show _ = (if v 0 < v 0 then v 0 else v 0).toInt64
      rw [ite_self]
    · rw [hn, if_neg i0, if_pos rfl, ha (by omega)]
      show (if (y_s1 v i).2.1.toInt64 < (v i).toInt64 then (v i).toInt64 else (y_s1 v i).2.1.toInt64) = _
      by_cases l : (y_s1 v i).2.1 < v i
      · rw [if_pos ((y_lt _ _).mpr l), if_pos l]
      · rw [if_neg (fun e => l ((y_lt _ _).mp e)), if_neg l]
  · show (if new = 0 then (if (v i).toInt64 < a then (v i).toInt64 else a) else (v i).toInt64) = (jmin (y_s1 v i).2.2 (v i)).toInt64
    unfold jmin
    by_cases i0 : i = 0
    · subst i0
      rw [hn, if_pos rfl, if_neg z_10]
      show _ = (if v 0 < v 0 then v 0 else v 0).toInt64
      rw [ite_self]
    · rw [hn, if_neg i0, if_pos rfl, ha (by omega)]
      show (if (v i).toInt64 < (y_s1 v i).2.2.toInt64 then (v i).toInt64 else (y_s1 v i).2.2.toInt64) = _
      by_cases l : v i < (y_s1 v i).2.2
      · rw [if_pos ((y_lt _ _).mpr l), if_pos l]
      · rw [if_neg (fun e => l ((y_lt _ _).mp e)), if_neg l]
theorem z_MB.z2 (h : z_MB A nm P N) (x : y_Z2 N N') : z_MB A nm P N' := by
  obtain ⟨h1, h2, h3, h4, h5⟩ := h
  exact ⟨h1.fr (x.2.1 31 (by decide) (by decide)) (fun i a b c => x.1 i (by omega)), h2.fr (x.1 391 (by decide)), fun q => (h3 q).fr (fun i a b => x.1 i (by omega)), ⟨(x.2.1 47 (by decide) (by decide)).trans h4.1, (x.2.1 48 (by decide) (by decide)).trans h4.2.1, (x.2.1 50 (by decide) (by decide)).trans h4.2.2⟩, fun i w hi hw => by rw [x.2.2.1 386 (by decide) (by decide)]; exact h5 i w hi hw⟩
theorem m_answer {D : List Nat} (hW : z_WB A nm P) (h00 : 0 < A 0 0) (hM : z_MB A nm P N) (hk : kind < 6) (h01 : kind < 3 → ∀ i, i < 61 → y_01 (v i)) (h89 : N.1 366 89 = nI D.length) (hD : y_st 426 D N) (hl : D.length < 1690) (hP : y_P A (r_v A (z_pa P)) D v) (h96 : N.2 366 96 = if kind < 2 then -1 else 0) (h97 : N.1 366 97 = 1) :
    z_ok (lp_Mo_ask_178 366 (nI kind) jfuel 0 N) (fun N' => N'.2 366 96 = y_an kind v 61 ∧ y_Z2 N N') := by
  rw [zl_0]
  refine z_loop (fun m c N' => lp_Mo_ask_178 366 (nI kind) m c N') (fun c N' => ((kind < 4 ∨ 0 < c) → N'.2 366 96 = y_an kind v c) ∧ N'.1 366 97 = (if c = 0 then 1 else 0) ∧ y_Z2 N N') _ 61 ?_ ?_ jfuel 0 N (Nat.zero_le _) (by rw [z_jf]; omega) ⟨fun h => ?_, h97, y_Z2.rf⟩
  · intro m c N' hc ⟨i1, i2, i3⟩ k
    show z_ok (lp_Mo_ask_178 366 (nI kind) (m + 1) (nI c) N') _
    rw [lp_Mo_ask_178, if_neg (z_jfl c hc)]
    have ev : y_ev A (r_v A (z_pa P)) c D [] = some [v c] := by
      have := hP c hc [] [] [] rfl
      rw [List.append_nil] at this; exact this
    refine z_bind (m_told hW h00 (hM.z2 i3) hc ((i3.2.1 89 (by decide) (by decide)).trans h89) (hD.fr (fun j _ => by rw [i3.1 426 (by decide)])) hl ev) (fun r hr => ?_)
    obtain ⟨t, N1⟩ := r
    obtain ⟨r1, r2⟩ := hr
    have r1 : t = (v c).toInt64 := r1
    have r2 : y_Z N' N1 := r2
    subst r1
    refine z_bind (m_takesQ (i := c) (w := (v c).toInt64) (N := N1) hk) (fun N2 h2 => ?_)
    rw [nI_1]
    refine k N2 ⟨fun _ => ?_, h2.2.1.trans (if_neg (Nat.succ_ne_zero c)).symm, (i3.tr r2.z2).tr h2.2.2⟩
    rw [h2.1]
    exact y_tk_s hc hk (fun q => h01 q c hc) (fun q => by rw [r2.2.2 366 (by decide)]; exact i1 q) ((r2.2.1 97 (by decide)).trans i2)
  · intro m N' ⟨i1, i2, i3⟩
    show z_ok (lp_Mo_ask_178 366 (nI kind) (m + 1) (nI 61) N') _
    rw [lp_Mo_ask_178, if_pos (by decide)]
    exact z_some ⟨i1 (Or.inr (by decide)), i3⟩
  · rw [h96]
    have : kind = 0 ∨ kind = 1 ∨ kind = 2 ∨ kind = 3 := by omega
    rcases this with rfl | rfl | rfl | rfl <;> rfl
end
