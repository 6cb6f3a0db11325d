/-! ===== pure: what the class's reader takes ===== -/
abbrev z_is (T : Nat → Nat) (n b : Nat) (w : List Nat) : Prop := z_so T n b = 1 ∧ z_en T n b = z_sk T n b + w.length ∧ ∀ i, i < w.length → T (z_sk T n b + i) = w.getD i 0
abbrev z_sg (T : Nat → Nat) (n b c : Nat) : Prop := z_so T n b = 3 ∧ T (z_sk T n b) = c
def z_nv (T : Nat → Nat) (k : Nat) : Nat → Nat := fun m => z_it (fun i v => 10 * v + (T (k + i) - 48)) m 0
/-- the FAULT of a number, if there is one -/
def z_nf (T : Nat → Nat) (n b lo hi : Nat) : Option (Nat × Nat) :=
  if z_so T n b ≠ 2 then some (1, z_sk T n b)
  else if 4 < z_en T n b - z_sk T n b then some (1, z_sk T n b + 4)
  else if z_nv T (z_sk T n b) (z_en T n b - z_sk T n b) < lo ∨ hi < z_nv T (z_sk T n b) (z_en T n b - z_sk T n b) then some (2, z_sk T n b)
  else none
def z_ix (T : Nat → Nat) (n b : Nat) : List (List Nat) → Option Nat
  | [] => none
  | w :: ws => if z_is T n b w then some 0 else (z_ix T n b ws).map (· + 1)
def z_fw : List (List Nat) → List Nat
  | [] => []
  | w :: ws => w ++ 32 :: z_fw ws
/-- a FAULT told -/
def z_CF (f p : Nat) (M : SM) : Prop := M.1 3 5 = nI f ∧ M.1 3 6 = nI p
def z_SF (M M' : SM) : Prop := M'.1 3 5 = M.1 3 5 ∧ M'.1 3 6 = M.1 3 6
section
variable {T : Nat → Nat} {n b : Nat} {M : SM}
theorem z_so_lt (hb : b ≤ n) (h : z_so T n b ≠ 0) : z_sk T n b < n := by
  have hs := z_sk_s (T := T) hb
  by_cases c : n ≤ z_sk T n b
  · exact absurd (by unfold z_so; rw [if_pos c]) h
  · omega
theorem z_so_4 : z_so T n b ≤ 4 := by
  unfold z_so
  split
  · omega
  · split
    · split <;> omega
    · split
      · split <;> omega
      · omega
/-- of a word -/
theorem z_so_1 (h : z_so T n b = 1) : z_sk T n b < n ∧ z_le (T (z_sk T n b)) ∧ z_en T n b = z_wd T n (z_sk T n b) := by
  unfold z_so at h
  by_cases c : n ≤ z_sk T n b
  · rw [if_pos c] at h; omega
  · rw [if_neg c] at h
    by_cases c1 : z_le (T (z_sk T n b))
    · exact ⟨by omega, c1, by unfold z_en; rw [if_neg c, if_pos c1]⟩
    · rw [if_neg c1] at h
      split at h
      · split at h <;> omega
      · omega
theorem z_so_2 (h : z_so T n b = 2) : z_sk T n b < n ∧ z_di (T (z_sk T n b)) ∧ z_en T n b = z_dg T n (z_sk T n b) := by
  unfold z_so at h
  by_cases c : n ≤ z_sk T n b
  · rw [if_pos c] at h; omega
  · rw [if_neg c] at h
    by_cases c1 : z_le (T (z_sk T n b))
    · rw [if_pos c1] at h
      split at h <;> omega
    · rw [if_neg c1] at h
      by_cases c2 : z_di (T (z_sk T n b))
      · exact ⟨by omega, c2, by unfold z_en; rw [if_neg c, if_neg c1, if_pos c2]⟩
      · rw [if_neg c2] at h; omega
theorem z_so_3 : z_so T n b = 3 ↔ (z_sk T n b < n ∧ ¬ z_le (T (z_sk T n b)) ∧ ¬ z_di (T (z_sk T n b))) := by
  unfold z_so
  by_cases c : n ≤ z_sk T n b
  · rw [if_pos c]; constructor
    · intro h; omega
    · intro h; omega
  · rw [if_neg c]
    by_cases c1 : z_le (T (z_sk T n b))
    · rw [if_pos c1]; constructor
      · intro h; split at h <;> omega
      · intro h; exact absurd c1 h.2.1
    · rw [if_neg c1]
      by_cases c2 : z_di (T (z_sk T n b))
      · rw [if_pos c2]; constructor
        · intro h; split at h <;> omega
        · intro h; exact absurd c2 h.2.2
      · rw [if_neg c2]; exact ⟨fun _ => ⟨by omega, c1, c2⟩, fun _ => rfl⟩
theorem z_lt1 (h : z_so T n b = 1) {i : Nat} (hi : z_sk T n b + i < z_en T n b) : z_lt0 T n b i = T (z_sk T n b + i) := by
  have := z_so_1 h
  unfold z_lt0
  rw [if_pos ⟨this.1, this.2.1, hi⟩]
theorem c_piece (hw : z_wt n T) (hb : b ≤ n) (hR : z_RD T n b M) {a L p q : Nat} {w : List Nat} (hL : jsln a = nI L) (hL2 : L < 1000) (hq : p + w.length = q) (hqL : q ≤ L) (hw12 : w.length ≤ 12)
    (hch : ∀ i, i < w.length → jsch a (nI (p + i)) = some (nI (w.getD i 0))) (hcb : ∀ i, i < w.length → w.getD i 0 < 256) : f_Re_isPiece 3 a (nI p) (nI q) M = some (if z_is T n b w then 1 else 0) := by
  have hn := hw.1
  obtain ⟨r1, r3, r4, rw⟩ := hR
  have hen := z_en_s (T := T) hb
  have hso := z_so_4 (T := T) (n := n) (b := b)
  unfold f_Re_isPiece
  rw [r1, r3, r4]
  by_cases c1 : z_so T n b = 1
  · rw [if_pos (by rw [c1]; rfl), z_sub (show p ≤ q by omega), z_sub hen.1, show q - p = w.length by omega]
    by_cases c2 : w.length = z_en T n b - z_sk T n b
    · rw [if_pos (by rw [c2])]
      have hlp : z_ok (lp_Re_isPiece_28 3 a (nI p) (nI q) M jfuel (nI p)) (fun t => (t = .inl () ∧ ∀ i, i < w.length → T (z_sk T n b + i) = w.getD i 0) ∨ (t = .inr 0 ∧ ¬ ∀ i, i < w.length → T (z_sk T n b + i) = w.getD i 0)) := by
        refine z_loop0 (fun m c => lp_Re_isPiece_28 3 a (nI p) (nI q) M m c) (fun c => p ≤ c ∧ ∀ i, p + i < c → T (z_sk T n b + i) = w.getD i 0) _ q ?_ ?_ jfuel p (by omega) (by rw [z_jf]; omega) ⟨Nat.le_refl _, fun i hi => by omega⟩
        · intro m c hc hI k
          obtain ⟨i1, i2⟩ := hI
          have h1 := hch (c - p) (by omega)
          have h2 := hcb (c - p) (by omega)
          rw [show p + (c - p) = c by omega] at h1
          show z_ok (lp_Re_isPiece_28 3 a (nI p) (nI q) M (m + 1) (nI c)) _
          rw [lp_Re_isPiece_28, hL, jp_3_2, z_sub i1]
          refine z_pos (nI_lt hc (by omega)) (z_pos (nI_lt (by omega) (by omega)) ?_)
          refine z_eq (za_4 _ (by omega)) ?_
          refine z_eq h1 ?_
          have hlt : z_sk T n b + (c - p) < z_en T n b := by omega
          have hT := hw.2 (z_sk T n b + (c - p)) (by omega)
          rw [rw _ (by omega), z_lt1 c1 hlt, nI_1]
          refine z_ee _ _ rfl rfl (by omega) (by omega) (fun e => k ⟨by omega, fun i hi => ?_⟩) (fun e => z_some (Or.inr ⟨rfl, fun q => e (q (c - p) (by omega))⟩))
          by_cases e2 : i = c - p
          · rw [e2]; exact e
          · exact i2 i (by omega)
        · intro m hI
          show z_ok (lp_Re_isPiece_28 3 a (nI p) (nI q) M (m + 1) (nI q)) _
          rw [lp_Re_isPiece_28]
          exact z_neg (nI_nlt (Nat.le_refl _) (by omega)) (z_some (Or.inl ⟨rfl, fun i hi => hI.2 i (by omega)⟩))
      obtain ⟨t, et, pt⟩ := hlp
      rw [et]
      rcases pt with ⟨e1, e2⟩ | ⟨e1, e2⟩
      · rw [e1, if_pos ⟨c1, by omega, e2⟩]; rfl
      · rw [e1, if_neg (fun q => e2 q.2.2)]; rfl
    · rw [if_neg (fun e => c2 ((nI_eq (by omega) (by omega)).mp e)), if_neg (fun q => c2 (by have := q.2.1; omega))]
  · rw [if_neg (fun (e : nI (z_so T n b) = 1) => c1 ((nI_eq (b := 1) (by omega) (by decide)).mp e)), if_neg (fun q => c1 q.1)]
theorem c_refuse : f_Re_refuse 3 M = some (0, sI (sI M 3 5 1) 3 6 (M.1 3 3)) := rfl
theorem z_RE.f {M' : SM} {k : Nat} {v : Int32} (h : z_RE M M') : z_RE M (sI M' 3 k v) := h.sI (by omega)
theorem z_RE.rf : z_RE M M := z_Fr.rf
theorem z_RE.tr {M' M'' : SM} (h : z_RE M M') (k : z_RE M' M'') : z_RE M M'' := z_Fr.tr h k
theorem z_CF.mk {M' : SM} (f p : Nat) : z_CF f p (sI (sI M' 3 5 (nI f)) 3 6 (nI p)) := ⟨by rw [z_sIk _ _ _ _ (by decide), z_sIs], z_sIs _ _ _ _⟩
/-- a step of the reader -/
theorem c_next (hw : z_wt n T) (h : z_tc n T M) (hb : b ≤ n) (hR : z_RD T n b M) : z_ok (f_Re_step 3 M) (fun M' => z_RD T n (z_en T n b) M' ∧ z_RE M M' ∧ z_SF M M') :=
  z_mono (c_step hw h (z_en_s hb).2.1 hR.2.2.1) (fun M' h => ⟨h.1, h.2.1, h.2.2 5 (Or.inl rfl), h.2.2 6 (Or.inr rfl)⟩)
/-- what taking a piece may do -/
def z_TK (T : Nat → Nat) (n b : Nat) (M : SM) (yes : Prop) (r : Int32 × SM) : Prop := z_RE M r.2 ∧ ((yes ∧ r.1 = 1 ∧ z_RD T n (z_en T n b) r.2 ∧ z_SF M r.2) ∨ (¬ yes ∧ r.1 = 0 ∧ z_CF 1 (z_sk T n b) r.2))
theorem c_word (hw : z_wt n T) (h : z_tc n T M) (hb : b ≤ n) (hR : z_RD T n b M) {a : Nat} {w : List Nat} (hL : jsln a = nI w.length) (hw12 : w.length ≤ 12)
    (hch : ∀ i, i < w.length → jsch a (nI (0 + i)) = some (nI (w.getD i 0))) (hcb : ∀ i, i < w.length → w.getD i 0 < 256) : z_ok (f_Re_takeWord 3 a M) (z_TK T n b M (z_is T n b w)) := by
  unfold f_Re_takeWord
  rw [hL]
  refine z_eq (c_piece (p := 0) hw hb hR hL (by omega) (by omega) (Nat.le_refl _) hw12 hch hcb) ?_
  rw [z_if01]
  by_cases c : z_is T n b w
  · rw [if_pos c]
    exact z_bind (c_next hw h hb hR) (fun M' hM => z_some ⟨hM.2.1, Or.inl ⟨c, rfl, hM.1, hM.2.2⟩⟩)
  · rw [if_neg c]
    refine z_eq c_refuse ?_
    refine z_eq (z_bchk (Or.inl rfl)) (z_some ⟨z_RE.rf.f.f, Or.inr ⟨c, rfl, ?_⟩⟩)
    have := z_CF.mk (M' := M) 1 (z_sk T n b)
    rw [← hR.2.1] at this
    exact ⟨this.1, z_sIs _ _ _ _ |>.trans hR.2.1⟩
theorem c_isWord (hw : z_wt n T) (hb : b ≤ n) (hR : z_RD T n b M) {a : Nat} {w : List Nat} (hL : jsln a = nI w.length) (hw12 : w.length ≤ 12)
    (hch : ∀ i, i < w.length → jsch a (nI (0 + i)) = some (nI (w.getD i 0))) (hcb : ∀ i, i < w.length → w.getD i 0 < 256) : f_Re_isWord 3 a M = some (if z_is T n b w then 1 else 0) := by
  unfold f_Re_isWord
  rw [hL]
  show (f_Re_isPiece 3 a (nI 0) (nI w.length) M).bind _ = _
  rw [c_piece (p := 0) hw hb hR hL (by omega) (by omega) (Nat.le_refl _) hw12 hch hcb]
  show (bchk _).bind _ = _
  rw [z_bchk (z_ifb _)]; rfl
theorem c_isSign (hw : z_wt n T) (h : z_tc n T M) (hb : b ≤ n) (hR : z_RD T n b M) {c : Nat} (hc : c < 256) : f_Re_isSign 3 (nI c) M = some (if z_sg T n b c then 1 else 0) := by
  have hn := hw.1
  have hs := z_sk_s (T := T) hb
  have hso := z_so_4 (T := T) (n := n) (b := b)
  unfold f_Re_isSign
  rw [hR.1, hR.2.1, jp_3_0]
  by_cases c1 : z_so T n b = 3
  · have hlt := (z_so_3.mp c1).1
    have hT := hw.2 _ hlt
    rw [if_pos (by rw [c1]; rfl), c_read hw h (by omega), if_pos hlt]
    show (if nI (T (z_sk T n b)) = nI c then some 1 else some 0) = _
    by_cases c2 : T (z_sk T n b) = c
    · rw [if_pos (by rw [c2]), if_pos ⟨c1, c2⟩]
    · rw [if_neg (fun e => c2 ((nI_eq (by omega) (by omega)).mp e)), if_neg (fun q => c2 q.2)]
  · rw [if_neg (fun (e : nI (z_so T n b) = 3) => c1 ((nI_eq (b := 3) (by omega) (by decide)).mp e)), if_neg (fun q => c1 q.1)]
theorem c_sign (hw : z_wt n T) (h : z_tc n T M) (hb : b ≤ n) (hR : z_RD T n b M) {c : Nat} (hc : c < 256) : z_ok (f_Re_takeSign 3 (nI c) M) (z_TK T n b M (z_sg T n b c)) := by
  unfold f_Re_takeSign
  refine z_eq (c_isSign hw h hb hR hc) ?_
  rw [z_if01]
  by_cases c1 : z_sg T n b c
  · rw [if_pos c1]
    exact z_bind (c_next hw h hb hR) (fun M' hM => z_some ⟨hM.2.1, Or.inl ⟨c1, rfl, hM.1, hM.2.2⟩⟩)
  · rw [if_neg c1]
    refine z_eq c_refuse ?_
    refine z_eq (z_bchk (Or.inl rfl)) (z_some ⟨z_RE.rf.f.f, Or.inr ⟨c1, rfl, ?_, z_sIs _ _ _ _ |>.trans hR.2.1⟩⟩)
    rw [z_sIk _ _ _ _ (by decide), z_sIs]; rfl
theorem z_nv_b (hw : z_wt n T) {k : Nat} : ∀ {m : Nat}, (∀ j, j < m → z_di (T (k + j))) → z_nv T k m < 10 ^ m
  | 0, _ => by show z_it _ 0 0 < 10 ^ 0; exact Nat.lt_succ_self 0
  | m + 1, h => by
    have h1 := z_nv_b hw (k := k) (m := m) (fun j hj => h j (by omega))
    have h2 := h m (by omega)
    show 10 * z_nv T k m + (T (k + m) - 48) < 10 ^ (m + 1)
    rw [Nat.pow_succ]; omega
/-- a number -/
theorem c_num (hw : z_wt n T) (h : z_tc n T M) (hb : b ≤ n) (hR : z_RD T n b M) {lo hi : Nat} (hlo : lo < 2 ^ 30) (hhi : hi < 2 ^ 30) : z_ok (f_Re_takeNumber 3 (nI lo) (nI hi) M) (fun r => z_RE M r.2 ∧
    ((z_nf T n b lo hi = none ∧ r.1 = nI (z_nv T (z_sk T n b) (z_en T n b - z_sk T n b)) ∧ z_RD T n (z_en T n b) r.2 ∧ z_SF M r.2) ∨ (∃ f p, z_nf T n b lo hi = some (f, p) ∧ r.1 = -1 ∧ z_CF f p r.2))) := by
  have hn := hw.1
  have hen := z_en_s (T := T) hb
  have hs := z_sk_s (T := T) hb
  have hso := z_so_4 (T := T) (n := n) (b := b)
  unfold f_Re_takeNumber
  have hnf : z_nf T n b lo hi = if z_so T n b ≠ 2 then some (1, z_sk T n b) else if 4 < z_en T n b - z_sk T n b then some (1, z_sk T n b + 4) else if z_nv T (z_sk T n b) (z_en T n b - z_sk T n b) < lo ∨ hi < z_nv T (z_sk T n b) (z_en T n b - z_sk T n b) then some (2, z_sk T n b) else none := rfl
  rw [hR.1, hR.2.1, hR.2.2.1]
  by_cases c1 : z_so T n b = 2
  · refine z_pos (by rw [c1]; rfl) ?_
    rw [if_neg (fun q => q c1)] at hnf
    have h2 := z_so_2 c1
    have hdg := z_dg_s (T := T) (n := n) hs.2.1
    rw [z_sub hen.1, show (4 : Int32) = nI 4 from rfl]
    refine z_lt _ _ rfl rfl (by decide) (by omega) (fun c2 => ?_) (fun c2 => ?_)
    · rw [if_pos c2] at hnf
      rw [nI_add]
      refine z_eq (r := (0, sI (sI M 3 5 (nI 1)) 3 6 (nI (z_sk T n b + 4)))) rfl (z_some ⟨z_RE.rf.f.f, Or.inr ⟨1, z_sk T n b + 4, hnf, rfl, z_CF.mk _ _⟩⟩)
    · rw [if_neg (by omega)] at hnf
      have hdi : ∀ j, j < z_en T n b - z_sk T n b → z_di (T (z_sk T n b + j)) := fun j hj => by
        rw [h2.2.2] at hj
        exact hdg.2.2.1 _ (by omega) (by omega)
      have hvb := z_nv_b hw hdi
      have hp4 : 10 ^ (z_en T n b - z_sk T n b) ≤ 10 ^ 4 := Nat.pow_le_pow_right (by decide) c2
      refine z_bind (P := fun v => v = nI (z_nv T (z_sk T n b) (z_en T n b - z_sk T n b))) ?_ (fun v hv => ?_)
      · show z_ok ((fun m c (s : Int32) => lp_Re_takeNumber_50 3 M m s c) jfuel (nI (z_sk T n b)) (nI 0)) _
        refine z_loop (σ := Int32) (τ := Int32) (fun m c (s : Int32) => lp_Re_takeNumber_50 3 M m s c) (fun c s => z_sk T n b ≤ c ∧ s = nI (z_nv T (z_sk T n b) (c - z_sk T n b))) _ (z_en T n b) ?_ ?_ jfuel (z_sk T n b) (nI 0) hen.1 (by rw [z_jf]; omega) ⟨Nat.le_refl _, by rw [Nat.sub_self]; rfl⟩
        · intro m c s hc hI k
          obtain ⟨i1, i2⟩ := hI
          have hd := hdi (c - z_sk T n b) (by omega)
          rw [show z_sk T n b + (c - z_sk T n b) = c by omega] at hd
          show z_ok (lp_Re_takeNumber_50 3 M (m + 1) s (nI c)) _
          rw [lp_Re_takeNumber_50, hR.2.2.1, jp_3_0]
          refine z_pos (nI_lt hc (by omega)) ?_
          refine z_eq (c_read hw h (by omega)) ?_
          rw [if_pos (by omega), i2, show (10 : Int32) = nI 10 from rfl, pk_mul, nI_add, show (48 : Int32) = nI 48 from rfl, z_sub (by omega), nI_1]
          refine k _ ⟨by omega, ?_⟩
          rw [show c + 1 - z_sk T n b = (c - z_sk T n b) + 1 by omega]
          show nI _ = nI (10 * z_nv T (z_sk T n b) (c - z_sk T n b) + (T (z_sk T n b + (c - z_sk T n b)) - 48))
          rw [show z_sk T n b + (c - z_sk T n b) = c by omega]
          congr 1; omega
        · intro m s hI
          show z_ok (lp_Re_takeNumber_50 3 M (m + 1) s (nI (z_en T n b))) _
          rw [lp_Re_takeNumber_50, hR.2.2.1]
          exact z_neg (nI_nlt (Nat.le_refl _) (by omega)) (z_some hI.2)
      · subst hv
        generalize z_nv T (z_sk T n b) (z_en T n b - z_sk T n b) = v at hnf hvb
        refine z_lt _ _ rfl rfl (by omega) (by omega) (fun c3 => ?_) (fun c3 => ?_)
        · rw [if_pos (Or.inl c3)] at hnf
          refine z_eq (r := (0, sI (sI M 3 5 (nI 2)) 3 6 (nI (z_sk T n b)))) rfl (z_some ⟨z_RE.rf.f.f, Or.inr ⟨2, z_sk T n b, hnf, rfl, z_CF.mk _ _⟩⟩)
        · refine z_lt _ _ rfl rfl (by omega) (by omega) (fun c4 => ?_) (fun c4 => ?_)
          · rw [if_pos (Or.inr c4)] at hnf
            refine z_eq (r := (0, sI (sI M 3 5 (nI 2)) 3 6 (nI (z_sk T n b)))) rfl (z_some ⟨z_RE.rf.f.f, Or.inr ⟨2, z_sk T n b, hnf, rfl, z_CF.mk _ _⟩⟩)
          · rw [if_neg (by omega)] at hnf
            exact z_bind (c_next hw h hb hR) (fun M' hM => z_some ⟨hM.2.1, Or.inl ⟨hnf, rfl, hM.1, hM.2.2⟩⟩)
  · refine z_neg (fun e => c1 ((nI_eq (b := 2) (by omega) (by decide)).mp e)) ?_
    rw [if_pos c1] at hnf
    refine z_eq c_refuse (z_some ⟨z_RE.rf.f.f, Or.inr ⟨1, z_sk T n b, hnf, rfl, ?_, z_sIs _ _ _ _ |>.trans hR.2.1⟩⟩)
    rw [z_sIk _ _ _ _ (by decide), z_sIs]; rfl
/-- the number of a word in a text of words -/
theorem c_amongL (hw : z_wt n T) (hb : b ≤ n) (hR : z_RD T n b M) {a L : Nat} (hL : jsln a = nI L) (hL2 : L < 1000) : ∀ (ws : List (List Nat)) (p j f : Nat), p + (z_fw ws).length = L → (∀ i, i < (z_fw ws).length → jsch a (nI (p + i)) = some (nI ((z_fw ws).getD i 0))) → (∀ w, w ∈ ws → w.length ≤ 12 ∧ ∀ i, i < w.length → w.getD i 0 < 256 ∧ w.getD i 0 ≠ 32) → L - p < f →
    lp_Re_wordAmong_7 3 a M f (nI j) (nI p) (nI p) = some (match z_ix T n b ws with | some i => .inr (nI (j + i)) | none => .inl ()) := by
  intro ws
  induction ws with
  | nil =>
    intro p j f h1 h2 h3 h4
    obtain ⟨f, rfl⟩ : ∃ f', f = f' + 1 := ⟨f - 1, by omega⟩
    have h1 : p + 0 = L := h1
    rw [lp_Re_wordAmong_7, hL, if_neg (nI_nlt (by omega) (by omega))]; rfl
  | cons w ws ih =>
    intro p j f h1 h2 h3 h4
    have hlen : (z_fw (w :: ws)).length = w.length + (1 + (z_fw ws).length) := by
      show (w ++ 32 :: z_fw ws).length = _
      rw [List.length_append, List.length_cons]; omega
    have hw0 := h3 w List.mem_cons_self
    have g1 : ∀ i, i < w.length → (z_fw (w :: ws)).getD i 0 = w.getD i 0 := fun i hi => by
      show (w ++ 32 :: z_fw ws).getD i 0 = _
      rw [List.getD_eq_getElem?_getD, List.getD_eq_getElem?_getD, List.getElem?_append_left hi]
    have g2 : (z_fw (w :: ws)).getD w.length 0 = 32 := by
      show (w ++ 32 :: z_fw ws).getD w.length 0 = _
      rw [List.getD_eq_getElem?_getD, List.getElem?_append_right (Nat.le_refl _), Nat.sub_self]; rfl
    have g3 : ∀ i, (z_fw (w :: ws)).getD (w.length + 1 + i) 0 = (z_fw ws).getD i 0 := fun i => by
      show (w ++ 32 :: z_fw ws).getD (w.length + 1 + i) 0 = _
      rw [List.getD_eq_getElem?_getD, List.getD_eq_getElem?_getD, List.getElem?_append_right (by omega), show w.length + 1 + i - w.length = i + 1 by omega]; rfl
    -- over the letters
    have scan : ∀ m i f', i + m = w.length → lp_Re_wordAmong_7 3 a M (f' + m) (nI j) (nI p) (nI (p + i)) = lp_Re_wordAmong_7 3 a M f' (nI j) (nI p) (nI (p + w.length)) := by
      intro m
      induction m with
      | zero => intro i f' hi; rw [show i = w.length by omega]; rfl
      | succ m ihm =>
        intro i f' hi
        have h5 := h2 i (by omega)
        rw [g1 i (by omega)] at h5
        have h6 := hw0.2 i (by omega)
        show lp_Re_wordAmong_7 3 a M (f' + m + 1) (nI j) (nI p) (nI (p + i)) = _
        rw [lp_Re_wordAmong_7, hL, if_pos (nI_lt (by omega) (by omega)), h5]
        show (if nI (w.getD i 0) = 32 then _ else _) = _
        rw [if_neg (fun (e : nI (w.getD i 0) = 32) => h6.2 ((nI_eq (b := 32) (by omega) (by decide)).mp e)), nI_1, show p + i + 1 = p + (i + 1) by omega]
        exact ihm (i + 1) f' (by omega)
    obtain ⟨f', rfl⟩ : ∃ f', f = f' + 1 + w.length := ⟨f - 1 - w.length, by omega⟩
    have s0 : lp_Re_wordAmong_7 3 a M (f' + 1 + w.length) (nI j) (nI p) (nI p) = lp_Re_wordAmong_7 3 a M (f' + 1) (nI j) (nI p) (nI (p + w.length)) := scan w.length 0 (f' + 1) (by omega)
    rw [s0]
    have h5 := h2 w.length (by omega)
    rw [g2] at h5
    rw [lp_Re_wordAmong_7, hL, if_pos (nI_lt (by omega) (by omega)), h5]
    rw [Option.bind_some, if_pos (show nI 32 = 32 from rfl), c_piece hw hb hR hL hL2 (p := p) (q := p + w.length) (w := w) rfl (by omega) hw0.1 (fun i hi => by have := h2 i (by omega); rw [g1 i hi] at this; exact this) (fun i hi => (hw0.2 i hi).1)]
    rw [Option.bind_some, z_if01]
    have e1 : z_ix T n b (w :: ws) = if z_is T n b w then some 0 else (z_ix T n b ws).map (· + 1) := rfl
    by_cases c : z_is T n b w
    · rw [if_pos c, e1, if_pos c]; rfl
    · rw [if_neg c, e1, if_neg c, nI_1, nI_1, ih (p + w.length + 1) (j + 1) f' (by omega) (fun i hi => by have := h2 (w.length + 1 + i) (by omega); rw [g3] at this; rw [← this]; congr 2; omega) (fun w' hw' => h3 w' (List.mem_cons_of_mem _ hw')) (by omega)]
      cases z_ix T n b ws with
      | none => rfl
      | some i => show some (Sum.inr (nI (j + 1 + i))) = some (Sum.inr (nI (j + (i + 1)))); rw [show j + 1 + i = j + (i + 1) by omega]
theorem c_among (hw : z_wt n T) (hb : b ≤ n) (hR : z_RD T n b M) {a : Nat} {ws : List (List Nat)} (hL : jsln a = nI (z_fw ws).length) (hL2 : (z_fw ws).length < 1000) (hch : ∀ i, i < (z_fw ws).length → jsch a (nI (0 + i)) = some (nI ((z_fw ws).getD i 0))) (hws : ∀ w, w ∈ ws → w.length ≤ 12 ∧ ∀ i, i < w.length → w.getD i 0 < 256 ∧ w.getD i 0 ≠ 32) : f_Re_wordAmong 3 a M = some (match z_ix T n b ws with | some i => nI i | none => -1) := by
  unfold f_Re_wordAmong
  have h := c_amongL hw hb hR hL hL2 ws 0 0 jfuel (by omega) hch hws (by rw [z_jf]; omega)
  rw [nI_0] at h
  rw [h]
  cases z_ix T n b ws with
  | none => rfl
  | some i => show some (nI (0 + i)) = some (nI i); rw [Nat.zero_add]
theorem c_ended (hb : b ≤ n) (hR : z_RD T n b M) : z_ok (f_Re_ended 3 M) (fun r => z_RE M r.2 ∧ ((z_so T n b = 0 ∧ r = (1, M)) ∨ (z_so T n b ≠ 0 ∧ r.1 = 0 ∧ z_CF 1 (z_sk T n b) r.2))) := by
  have hso := z_so_4 (T := T) (n := n) (b := b)
  unfold f_Re_ended
  rw [hR.1]
  by_cases c : z_so T n b = 0
  · exact z_pos (by rw [c]; rfl) (z_some ⟨z_RE.rf, Or.inl ⟨c, rfl⟩⟩)
  · refine z_neg (nI_ne0 (by omega) (by omega)) ?_
    refine z_eq c_refuse (z_pos rfl (z_some ⟨z_RE.rf.f.f, Or.inr ⟨c, rfl, ?_, z_sIs _ _ _ _ |>.trans hR.2.1⟩⟩))
    rw [z_sIk _ _ _ _ (by decide), z_sIs]; rfl
theorem c_rbegin (hw : z_wt n T) (h : z_tc n T M) : z_ok (f_Re_begin 3 M) (fun M' => z_RD T n 0 M' ∧ z_RE M M' ∧ M'.1 3 5 = nI 0 ∧ M'.1 3 6 = -1) := by
  unfold f_Re_begin
  refine z_bind (c_step (b := 0) hw (h.fr rfl rfl) (Nat.zero_le _) rfl) (fun M' hM => z_some ⟨hM.1, z_RE.rf.f.f.f.tr hM.2.1, ?_, ?_⟩)
  · rw [hM.2.2 5 (Or.inl rfl)]; rfl
  · rw [hM.2.2 6 (Or.inr rfl)]; rfl
end
