/-! ===== pure: QUESTION's words, both ===== -/
def y_w8 : List (Nat × List Nat) := [(80, [98, 97, 114]), (81, [99, 97, 109, 101]), (82, [111, 117, 116]), (83, [100, 114, 117, 110, 107]), (84, [115, 112, 105, 108, 116]), (85, [116, 114, 105, 108, 108, 115]), (86, [100, 101, 101, 112]), (87, [98, 111, 97, 116])]
def y_wa : List (Nat × List Nat) := y_w8 ++ [(78, [109, 105, 110]), (79, [109, 97, 120])]
theorem y_wa_in : ∀ p, p ∈ y_wa → p ∈ z_wl := by decide
theorem y_w8_in : ∀ p, p ∈ y_w8 → p ∈ z_wl := by decide
section
variable {T : Nat → Nat} {n b a : Nat} {N N' M : SM}
theorem y_isu {w w' : List Nat} (h : z_is T n b w) (h' : z_is T n b w') : w = w' := by
  have e : w.length = w'.length := by have := h.2.1; have := h'.2.1; omega
  refine List.ext_getElem e (fun i h1 h2 => ?_)
  have a := h.2.2 i h1
  have c := h'.2.2 i h2
  rw [a] at c
  rw [List.getD_eq_getElem?_getD, List.getD_eq_getElem?_getD, List.getElem?_eq_getElem h1, List.getElem?_eq_getElem h2] at c
  exact c
theorem y_ixs : ∀ {ws : List (List Nat)} {i : Nat}, z_ix T n b ws = some i → i < ws.length ∧ z_is T n b (ws.getD i [])
  | [], i, h => by cases h
  | w :: ws, i, h => by
    rw [z_ix] at h
    by_cases c : z_is T n b w
    · rw [if_pos c] at h
      obtain rfl := Option.some.inj h
      exact ⟨by rw [List.length_cons]; omega, c⟩
    · rw [if_neg c] at h
      cases e : z_ix T n b ws with
      | none => rw [e] at h; cases h
      | some j =>
        rw [e] at h
        obtain rfl := Option.some.inj h
        have g := y_ixs e
        exact ⟨Nat.succ_lt_succ g.1, g.2⟩
theorem y_ixc {ws : List (List Nat)} (nd : ∀ i, i < ws.length → ∀ j, j < ws.length → ws.getD i [] = ws.getD j [] → i = j) {i : Nat} (hi : i < ws.length) (h : z_is T n b (ws.getD i [])) : z_ix T n b ws = some i := by
  cases e : z_ix T n b ws with
  | none =>
    refine absurd ⟨ws.getD i [], ?_, h⟩ (z_ix_any.mp e)
    rw [List.getD_eq_getElem?_getD, List.getElem?_eq_getElem hi]
    exact List.getElem_mem hi
  | some j =>
    have g := y_ixs e
    rw [nd i hi j g.1 (y_isu h g.2)]
/-- which of QUESTION's words -/
def y_wi (T : Nat → Nat) (n b : Nat) : Option Nat := z_ix T n b (y_wa.map (·.2))
theorem y_wi_lt {i : Nat} (h : y_wi T n b = some i) : i < 10 := (y_ixs h).1
theorem y_wi_is {i : Nat} (hi : i < 10) : y_wi T n b = some i ↔ z_is T n b (y_wa.getD i (0, [])).2 := by
  have e : ∀ i, i < 10 → (y_wa.map (·.2)).getD i [] = (y_wa.getD i (0, [])).2 := by decide
  refine ⟨fun h => by rw [← e i hi]; exact (y_ixs h).2, fun h => y_ixc (by decide) hi (by rw [e i hi]; exact h)⟩
def y_w : Option Nat → Int32
  | some i => nI i
  | none => -1
def y_8 : Option Nat → Option Nat
  | some i => if i < 8 then some i else none
  | none => none
theorem y_wi_8 : z_ix T n b (y_w8.map (·.2)) = y_8 (y_wi T n b) := by
  have e : ∀ i, i < 8 → (y_w8.map (·.2)).getD i [] = (y_wa.getD i (0, [])).2 := by decide
  cases c : z_ix T n b (y_w8.map (·.2)) with
  | some i =>
    have g := y_ixs c
    have hi : i < 8 := g.1
    rw [(y_wi_is (i := i) (by omega)).mpr (by rw [← e i hi]; exact g.2)]
    show some i = if i < 8 then some i else none
    rw [if_pos hi]
  | none =>
    cases d : y_wi T n b with
    | none => rfl
    | some i =>
      show none = if i < 8 then some i else none
      by_cases hi : i < 8
      · exfalso
        have := (y_wi_is (by omega)).mp d
        have := y_ixc (ws := y_w8.map (·.2)) (by decide) (i := i) hi (by rw [e i hi]; exact this)
        rw [c] at this; cases this
      · rw [if_neg hi]
theorem y_wi_so {i : Nat} (h : y_wi T n b = some i) : z_so T n b = 1 := ((y_wi_is (y_wi_lt h)).mp h).1
theorem y_here {p : Nat × List Nat} (hp : p ∈ z_wl) (hw : z_wt n T) (hm : z_mb T n b) (h : z_RF T n b a N) (hK : z_KW N) : z_ok (f_Mo_isHere 366 (jpf 366 p.1) N) (fun q => q.1 = (if z_is T n b p.2 then 1 else 0) ∧ z_RF T n b (z_sk T n b) q.2 ∧ z_LX N q.2) := by
  have s := z_wl_s p hp
  exact m_here hw hm h s.1 s.2.1 (hK p hp) s.2.2.1 s.2.2.2.1
theorem y_takes {p : Nat × List Nat} (hp : p ∈ z_wl) (hw : z_wt n T) (hm : z_mb T n b) (h : z_RF T n b a N) (hK : z_KW N) : z_ok (f_Mo_takes 366 (jpf 366 p.1) N) (fun q => z_LX N q.2 ∧ ((z_is T n b p.2 ∧ q.1 = 1 ∧ z_RF T n (z_en T n b) (z_en T n b) q.2) ∨ (¬ z_is T n b p.2 ∧ q.1 = 0 ∧ z_RF T n b (z_sk T n b) q.2))) := by
  have s := z_wl_s p hp
  exact m_takes hw hm h s.1 s.2.1 (hK p hp) s.2.2.1 s.2.2.2.1
theorem y_asks {p : Nat × List Nat} (hp : p ∈ z_wl) (hw : z_wt n T) (hm : z_mb T n b) (h : z_RF T n b a N) (hK : z_KW N) : z_ok (f_Mo_asks 366 (jpf 366 p.1) N) (fun N' => z_LX N N' ∧ ((z_is T n b p.2 ∧ z_RF T n (z_en T n b) (z_en T n b) N') ∨ (¬ z_is T n b p.2 ∧ z_MF 1 (z_sk T n b) N'))) := by
  have s := z_wl_s p hp
  exact m_asks hw hm h s.1 s.2.1 (hK p hp) s.2.2.1 s.2.2.2.1
theorem y_hs {p : Nat × List Nat} {F : Int32 × SM → Option (Int32 × SM)} {Q : Int32 × SM → Prop} (hp : p ∈ z_wl) (hw : z_wt n T) (hm : z_mb T n b) (h : z_RF T n b a N) (hK : z_KW N) (h1 : z_is T n b p.2 → ∀ q, z_RF T n b (z_sk T n b) q → z_LX N q → z_ok (F (1, q)) Q) (h0 : ¬ z_is T n b p.2 → ∀ q, z_RF T n b (z_sk T n b) q → z_LX N q → z_KW q → z_ok (F (0, q)) Q) :
    z_ok ((f_Mo_isHere 366 (jpf 366 p.1) N).bind F) Q := by
  refine z_bind (y_here hp hw hm h hK) (fun q hq => ?_)
  obtain ⟨v, q⟩ := q
  obtain ⟨q1, q2, q3⟩ := hq
  have q1 : v = _ := q1
  rw [q1]
  by_cases c : z_is T n b p.2
  · rw [if_pos c]; exact h1 c _ q2 q3
  · rw [if_neg c]; exact h0 c _ q2 q3 (hK.lx q3)
theorem m_wordHere (hw : z_wt n T) (hm : z_mb T n b) (h : z_RF T n b a N) (hK : z_KW N) : z_ok (f_Mo_qWordHere 366 N) (fun q => q.1 = y_w (z_ix T n b (y_w8.map (·.2))) ∧ z_RF T n b (z_sk T n b) q.2 ∧ z_LX N q.2) := by
  unfold f_Mo_qWordHere
  refine y_hs (p := (80, [98, 97, 114])) (by decide) hw hm h hK (fun i1 q r x => z_neg z_10 (z_some ⟨?_, r, x⟩)) (fun c1 q r x1 k => z_pos rfl ?_)
  · simp only [y_w8, List.map, z_ix, if_pos i1]; rfl
  refine y_hs (p := (81, [99, 97, 109, 101])) (by decide) hw hm r k (fun i1 q r x => z_neg z_10 (z_some ⟨?_, r, x1.tr x⟩)) (fun c2 q r x2 k => z_pos rfl ?_)
  · simp only [y_w8, List.map, z_ix, if_neg c1, if_pos i1]; rfl
  have x2 := x1.tr x2
  refine y_hs (p := (82, [111, 117, 116])) (by decide) hw hm r k (fun i1 q r x => z_neg z_10 (z_some ⟨?_, r, x2.tr x⟩)) (fun c3 q r x3 k => z_pos rfl ?_)
  · simp only [y_w8, List.map, z_ix, if_neg c1, if_neg c2, if_pos i1]; rfl
  have x3 := x2.tr x3
  refine y_hs (p := (83, [100, 114, 117, 110, 107])) (by decide) hw hm r k (fun i1 q r x => z_neg z_10 (z_some ⟨?_, r, x3.tr x⟩)) (fun c4 q r x4 k => z_pos rfl ?_)
  · simp only [y_w8, List.map, z_ix, if_neg c1, if_neg c2, if_neg c3, if_pos i1]; rfl
  have x4 := x3.tr x4
  refine y_hs (p := (84, [115, 112, 105, 108, 116])) (by decide) hw hm r k (fun i1 q r x => z_neg z_10 (z_some ⟨?_, r, x4.tr x⟩)) (fun c5 q r x5 k => z_pos rfl ?_)
  · simp only [y_w8, List.map, z_ix, if_neg c1, if_neg c2, if_neg c3, if_neg c4, if_pos i1]; rfl
  have x5 := x4.tr x5
  refine y_hs (p := (85, [116, 114, 105, 108, 108, 115])) (by decide) hw hm r k (fun i1 q r x => z_neg z_10 (z_some ⟨?_, r, x5.tr x⟩)) (fun c6 q r x6 k => z_pos rfl ?_)
  · simp only [y_w8, List.map, z_ix, if_neg c1, if_neg c2, if_neg c3, if_neg c4, if_neg c5, if_pos i1]; rfl
  have x6 := x5.tr x6
  refine y_hs (p := (86, [100, 101, 101, 112])) (by decide) hw hm r k (fun i1 q r x => z_neg z_10 (z_some ⟨?_, r, x6.tr x⟩)) (fun c7 q r x7 k => z_pos rfl ?_)
  · simp only [y_w8, List.map, z_ix, if_neg c1, if_neg c2, if_neg c3, if_neg c4, if_neg c5, if_neg c6, if_pos i1]; rfl
  have x7 := x6.tr x7
  refine y_hs (p := (87, [98, 111, 97, 116])) (by decide) hw hm r k (fun i1 q r x => z_neg z_10 (z_some ⟨?_, r, x7.tr x⟩)) (fun c8 q r x8 k => z_pos rfl (z_some ⟨?_, r, x7.tr x8⟩))
  · simp only [y_w8, List.map, z_ix, if_neg c1, if_neg c2, if_neg c3, if_neg c4, if_neg c5, if_neg c6, if_neg c7, if_pos i1]; rfl
  · simp only [y_w8, List.map, z_ix, if_neg c1, if_neg c2, if_neg c3, if_neg c4, if_neg c5, if_neg c6, if_neg c7, if_neg c8]; rfl
theorem m_wordOf {lo hi : Nat} (hlo : lo ≤ 8) (hhi : hi ≤ 8) (hw : z_wt n T) (hm : z_mb T n b) (h : z_RF T n b a N) (hK : z_KW N) : z_ok (f_Mo_qWordOf 366 (nI lo) (nI hi) N) (fun q => q.1 = (match y_wi T n b with | some i => if lo ≤ i ∧ i < hi then nI i else -1 | none => -1) ∧ z_RF T n b (z_sk T n b) q.2 ∧ z_LX N q.2) := by
  unfold f_Mo_qWordOf
  refine z_bind (m_wordHere hw hm h hK) (fun q hq => ?_)
  obtain ⟨q1, q2, q3⟩ := hq
  rw [q1, y_wi_8]
  have neg : ∀ (x : Int32 × SM), x = (-1, q.2) → z_ok (some x) (fun q' => q'.1 = -1 ∧ z_RF T n b (z_sk T n b) q'.2 ∧ z_LX N q'.2) := fun x e => z_some (by rw [e]; exact ⟨rfl, q2, q3⟩)
  have m1 : ∀ k, k ≤ 8 → (-1 : Int32) < nI k := by decide
  cases e : y_wi T n b with
  | none =>
    rw [show y_w (y_8 none) = -1 from rfl, if_pos (m1 lo hlo)]
    exact neg _ rfl
  | some i =>
    have hi10 := y_wi_lt e
    by_cases c8 : i < 8
    · rw [show y_w (y_8 (some i)) = nI i from congrArg y_w (if_pos c8)]
      show z_ok _ (fun (q' : Int32 × SM) => q'.1 = (if lo ≤ i ∧ i < hi then nI i else -1) ∧ _)
      by_cases c1 : i < lo
      · rw [if_pos (nI_lt c1 (by omega)), if_neg (by omega)]; exact neg _ rfl
      · rw [if_neg (nI_nlt (by omega) (by omega))]
        by_cases c2 : i < hi
        · rw [if_pos (nI_lt c2 (by omega)), if_pos ⟨by omega, c2⟩]; exact z_some ⟨rfl, q2, q3⟩
        · rw [if_neg (nI_nlt (by omega) (by omega)), if_neg (by omega)]; exact neg _ rfl
    · rw [show y_w (y_8 (some i)) = -1 from congrArg y_w (if_neg c8)]
      show z_ok _ (fun (q' : Int32 × SM) => q'.1 = (if lo ≤ i ∧ i < hi then nI i else -1) ∧ _)
      rw [if_pos (m1 lo hlo), if_neg (by omega)]
      exact neg _ rfl
theorem m_asksWord {i : Nat} (hi : i < 8) (hw : z_wt n T) (hm : z_mb T n b) (h : z_RF T n b a N) (hK : z_KW N) (e : y_wi T n b = some i) : z_ok (f_Mo_qAsksWord 366 (nI i) N) (fun N' => z_LX N N' ∧ z_RF T n (z_en T n b) (z_en T n b) N') := by
  have hin : y_wa.getD i (0, []) ∈ z_wl := y_wa_in _ (by
    have : ∀ i, i < 8 → y_wa.getD i (0, []) ∈ y_wa := by decide
    exact this i hi)
  have h1 := (y_wi_is (by omega)).mp e
  have key : f_Mo_qAsksWord 366 (nI i) N = f_Mo_asks 366 (jpf 366 (y_wa.getD i (0, [])).1) N := by
    have : i = 0 ∨ i = 1 ∨ i = 2 ∨ i = 3 ∨ i = 4 ∨ i = 5 ∨ i = 6 ∨ i = 7 := by omega
    unfold f_Mo_qAsksWord
    rcases this with rfl | rfl | rfl | rfl | rfl | rfl | rfl | rfl
    · rw [if_pos (by decide), y_ob]; rfl
    · rw [if_neg (by decide), if_pos (by decide), y_ob]; rfl
    · rw [if_neg (by decide), if_neg (by decide), if_pos (by decide), y_ob]; rfl
    · rw [if_neg (by decide), if_neg (by decide), if_neg (by decide), if_pos (by decide), y_ob]; rfl
    · rw [if_neg (by decide), if_neg (by decide), if_neg (by decide), if_neg (by decide), if_pos (by decide), y_ob]; rfl
    · rw [if_neg (by decide), if_neg (by decide), if_neg (by decide), if_neg (by decide), if_neg (by decide), if_pos (by decide), y_ob]; rfl
    · rw [if_neg (by decide), if_neg (by decide), if_neg (by decide), if_neg (by decide), if_neg (by decide), if_neg (by decide), if_pos (by decide), y_ob]; rfl
    · rw [if_neg (by decide), if_neg (by decide), if_neg (by decide), if_neg (by decide), if_neg (by decide), if_neg (by decide), if_neg (by decide), y_ob]; rfl
  rw [key]
  refine z_mono (y_asks hin hw hm h hK) (fun N' k => ⟨k.1, ?_⟩)
  rcases k.2 with ⟨_, r⟩ | ⟨c, _⟩
  · exact r
  · exact absurd h1 c
theorem m_lkS {c : Nat} (hw : z_wt n T) (hb : b ≤ n) (hc : ¬ z_al c) (hc2 : c < 256) : (if z_sk T n b < n then nI (T (z_sk T n b)) else -1) = nI c ↔ z_sg T n b c := by
  rw [z_sg_q hb hc]
  by_cases c0 : z_sk T n b < n
  · have hT := hw.2 _ c0
    rw [if_pos c0]
    exact ⟨fun e => ⟨c0, (nI_eq (by omega) (by omega)).mp e⟩, fun e => by rw [e.2]⟩
  · rw [if_neg c0]
    exact ⟨fun e => absurd e.symm (z_neg1 (n := c) (by omega)), fun e => absurd e.1 c0⟩
theorem y_sg1 {c d : Nat} (h : z_sg T n b c) (h' : z_sg T n b d) : c = d := h.2.symm.trans h'.2
theorem y_sgw {c : Nat} (h : z_sg T n b c) : y_wi T n b = none := by
  cases e : y_wi T n b with
  | none => rfl
  | some i => have := y_wi_so e; have := h.1; omega
theorem c_amongQ (hw : z_wt n T) (hb : b ≤ n) (hD : z_RD T n b M) : f_Re_wordAmong 3 1014 M = some (y_w (y_wi T n b)) := by
  rw [c_among hw hb hD (a := 1014) (ws := y_wa.map (·.2)) (by decide +kernel) (by decide +kernel) (by decide +kernel) (by decide +kernel)]
  unfold y_wi
  cases z_ix T n b (y_wa.map (·.2)) <;> rfl
end
