def lp_Mo_plays_6 (y0 : Nat) : Nat → Int32 → SM → Option (SM)
  | 0, _, _ => none
  | n + 1, x1, M => if x1 < 6 then ((aS M (jpf y0 61) x1 0).bind fun M3 => lp_Mo_plays_6 y0 n (x1 + 1) M3) else (some M)
def lp_Mo_plays_32 (y0 : Nat) : Nat → Int32 → SM → Option (SM)
  | 0, _, _ => none
  | n + 1, x1, M => if 60 < x1 then (some M) else ((f_Mo_goes y0 x1 M).bind fun q7 => (f_Mo_notes y0 x1 q7).bind fun q8 => (aI q8 (jpf y0 61) ((6 * x1) - 6)).bind fun v9 => (aS q8 (jpf y0 61) (6 * x1) (v9 + (q8.1 y0 55))).bind fun M10 => (aI M10 (jpf y0 61) (((6 * x1) - 6) + 1)).bind fun v11 => (aS M10 (jpf y0 61) ((6 * x1) + 1) (v11 + (M10.1 y0 56))).bind fun M12 => (aI M12 (jpf y0 61) (((6 * x1) - 6) + 2)).bind fun v13 => (aS M12 (jpf y0 61) ((6 * x1) + 2) (v13 + (M12.1 y0 57))).bind fun M14 => (aI M14 (jpf y0 61) (((6 * x1) - 6) + 3)).bind fun v15 => (aS M14 (jpf y0 61) ((6 * x1) + 3) (v15 + (M14.1 y0 58))).bind fun M16 => (aI M16 (jpf y0 61) (((6 * x1) - 6) + 5)).bind fun v17 => (if (M16.1 y0 54) = 0 then (some 0) else (some 1) : Option (Int32)).bind fun q18 => (aS M16 (jpf y0 61) ((6 * x1) + 5) (v17 + q18)).bind fun M20 => lp_Mo_plays_32 y0 n (x1 + 1) M20)
def f_Mo_plays (a0 : Nat) (M : SM) : Option SM := (f_Mo_begins a0 M).bind fun q1 => (lp_Mo_plays_6 a0 jfuel 0 q1).bind fun q4 => (f_Mo_notes a0 0 q4).bind fun q5 => (lp_Mo_plays_32 a0 jfuel 1 q5).bind fun q21 => some q21
section
variable {p : Program} {l : Launch} {e : Env} {R : Room} {s : State} {m : MethodId} {args : Array Value} {below : List Frame} {meth : Method} {c : Code} {G : JG} {D : Nat} {Q : State → Prop}
set_option maxHeartbeats 4000000 in
set_option maxRecDepth 20000 in
theorem K_Mo_plays (C : jCx p R s m args meth c G jb_Mo_plays 3 D "SluicePitModel") (F : jF G = false) (hD : 5 ≤ D) (a0 : Nat) (hp0 : jkd a0 12) (M : SM) (X : SM → Prop) (hR : ∀ M', X M' → ∀ (pc : Nat) (ls : List (Option Value)), decode jb_Mo_plays pc = .ok (.return_, 1) → Wk p l e R s m args below meth c G 3 Q 0 0 jN0 (jce G M') pc ls []) : J X (f_Mo_plays a0 M) (Wk p l e R s m args below meth c G 3 Q 0 0 jN0 (jce G M) 0 [some (.ref a0), none, none] []) := by
  unfold f_Mo_plays
  refine J_mono (w_aload_n C (jd jdt_Mo_plays 0 rfl) rfl) ?_
  refine J_bind (fun q1 hq1 => ?_)
  refine J_mono (jc_Mo_428 C hp0 (C_Mo_begins l G F a0 hp0 M hq1) rfl (Nat.le_trans (Nat.le_of_ble_eq_true rfl : 1 + 1 ≤ 5) hD) (jd jdt_Mo_plays 1 rfl)) ?_
  refine J_mono (w_iconst_0 C (jd jdt_Mo_plays 2 rfl)) ?_
  refine J_mono (w_istore_n (ls' := [some (.ref a0), some (.int 0), none]) C (jd jdt_Mo_plays 3 rfl) (by decide) rfl rfl) ?_
  have L6 : ∀ (y0 : Nat) (hy0 : jkd y0 12) (n : Nat) (x1 : Int32) (M : SM), J (fun (q4 : SM) => Wk p l e R s m args below meth c G 3 Q 0 0 jN0 (jce G q4) 25 [some (.ref y0), none, none] []) (lp_Mo_plays_6 y0 n x1 M) (Wk p l e R s m args below meth c G 3 Q 0 0 jN0 (jce G M) 6 [some (.ref y0), some (.int x1), none] []) := by
    intro y0 hy0 n
    induction n with
    | zero => intro x1 M; exact J_none
    | succ n ih =>
      intro x1 M
      unfold lp_Mo_plays_6
      refine J_mono (w_iload_n C (jd jdt_Mo_plays 4 rfl) rfl) ?_
      refine J_mono (w_bipush_6 C (jd jdt_Mo_plays 5 rfl)) ?_
      refine J_br (w_icmp_ge C (jd jdt_Mo_plays 6 rfl) rfl) (fun h2 => J_pos h2 ?_) (fun h2 => J_neg h2 ?_)
      · refine J_mono (w_aload_n C (jd jdt_Mo_plays 7 rfl) rfl) ?_
        refine J_mono (jg_Mo_130 C hy0 (jd jdt_Mo_plays 8 rfl)) ?_
        refine J_mono (w_iload_n C (jd jdt_Mo_plays 9 rfl) rfl) ?_
        refine J_mono (w_iconst_0 C (jd jdt_Mo_plays 10 rfl)) ?_
        refine J_bind (fun M3 hM3 => ?_)
        refine J_mono (w_iast C F (jkf_12_61 hy0) hM3 (jd jdt_Mo_plays 11 rfl)) ?_
        refine J_mono (w_iinc (v := x1 + 1) (ls' := [some (.ref y0), some (.int (x1 + 1)), none]) C (jd jdt_Mo_plays 12 rfl) rfl rfl (by decide) rfl rfl) ?_
        refine J_mono (w_goto C (jd jdt_Mo_plays 13 rfl) rfl) ?_
        exact J_sub (ih (x1 + 1) M3) ⟨rfl, rfl, trivial⟩
      · exact J_some (fun hx => Wk_sb hx ⟨rfl, trivial⟩)
  refine J_seq (fun (q4 : SM) => Wk p l e R s m args below meth c G 3 Q 0 0 jN0 (jce G q4) 25 [some (.ref a0), none, none] []) (J_sub (L6 a0 hp0 jfuel 0 q1) ⟨rfl, rfl, trivial⟩) (fun q4 hq4 => ?_)
  refine J_mono (w_aload_n C (jd jdt_Mo_plays 14 rfl) rfl) ?_
  refine J_mono (w_iconst_0 C (jd jdt_Mo_plays 15 rfl)) ?_
  refine J_bind (fun q5 hq5 => ?_)
  refine J_mono (jc_Mo_437 C hp0 (C_Mo_notes l G F a0 0 hp0 q4 hq5) rfl (Nat.le_trans (Nat.le_of_ble_eq_true rfl : 2 + 1 ≤ 5) hD) (jd jdt_Mo_plays 16 rfl)) ?_
  refine J_mono (w_iconst_1 C (jd jdt_Mo_plays 17 rfl)) ?_
  refine J_mono (w_istore_n (ls' := [some (.ref a0), some (.int 1), none]) C (jd jdt_Mo_plays 18 rfl) (by decide) rfl rfl) ?_
  have L32 : ∀ (y0 : Nat) (hy0 : jkd y0 12) (n : Nat) (x1 : Int32) (M : SM), J (fun (q21 : SM) => Wk p l e R s m args below meth c G 3 Q 0 0 jN0 (jce G q21) 186 [none, none, none] []) (lp_Mo_plays_32 y0 n x1 M) (Wk p l e R s m args below meth c G 3 Q 0 0 jN0 (jce G M) 32 [some (.ref y0), some (.int x1), none] []) := by
    intro y0 hy0 n
    induction n with
    | zero => intro x1 M; exact J_none
    | succ n ih =>
      intro x1 M
      unfold lp_Mo_plays_32
      refine J_mono (w_iload_n C (jd jdt_Mo_plays 19 rfl) rfl) ?_
      refine J_mono (w_bipush_60 C (jd jdt_Mo_plays 20 rfl)) ?_
      refine J_br (w_icmp_gt C (jd jdt_Mo_plays 21 rfl) rfl) (fun h6 => J_pos h6 ?_) (fun h6 => J_neg h6 ?_)
      · exact J_some (fun hx => Wk_sb hx trivial)
      · refine J_mono (w_aload_n C (jd jdt_Mo_plays 22 rfl) rfl) ?_
        refine J_mono (w_iload_n C (jd jdt_Mo_plays 23 rfl) rfl) ?_
        refine J_bind (fun q7 hq7 => ?_)
        refine J_mono (jc_Mo_431 C hy0 (C_Mo_goes l G F y0 x1 hy0 M hq7) rfl (Nat.le_trans (Nat.le_of_ble_eq_true rfl : 4 + 1 ≤ 5) hD) (jd jdt_Mo_plays 24 rfl)) ?_
        refine J_mono (w_aload_n C (jd jdt_Mo_plays 25 rfl) rfl) ?_
        refine J_mono (w_iload_n C (jd jdt_Mo_plays 26 rfl) rfl) ?_
        refine J_bind (fun q8 hq8 => ?_)
        refine J_mono (jc_Mo_437 C hy0 (C_Mo_notes l G F y0 x1 hy0 q7 hq8) rfl (Nat.le_trans (Nat.le_of_ble_eq_true rfl : 2 + 1 ≤ 5) hD) (jd jdt_Mo_plays 27 rfl)) ?_
        refine J_mono (w_bipush_6 C (jd jdt_Mo_plays 28 rfl)) ?_
        refine J_mono (w_iload_n C (jd jdt_Mo_plays 29 rfl) rfl) ?_
        refine J_mono (w_imul C (jd jdt_Mo_plays 30 rfl)) ?_
        refine J_mono (w_bipush_6 C (jd jdt_Mo_plays 31 rfl)) ?_
        refine J_mono (w_isub C (jd jdt_Mo_plays 32 rfl)) ?_
        refine J_mono (w_istore_n (ls' := [some (.ref y0), some (.int x1), some (.int ((6 * x1) - 6))]) C (jd jdt_Mo_plays 33 rfl) (by decide) rfl rfl) ?_
        refine J_mono (w_aload_n C (jd jdt_Mo_plays 34 rfl) rfl) ?_
        refine J_mono (jg_Mo_130 C hy0 (jd jdt_Mo_plays 35 rfl)) ?_
        refine J_mono (w_bipush_6 C (jd jdt_Mo_plays 36 rfl)) ?_
        refine J_mono (w_iload_n C (jd jdt_Mo_plays 37 rfl) rfl) ?_
        refine J_mono (w_imul C (jd jdt_Mo_plays 38 rfl)) ?_
        refine J_mono (w_aload_n C (jd jdt_Mo_plays 39 rfl) rfl) ?_
        refine J_mono (jg_Mo_130 C hy0 (jd jdt_Mo_plays 40 rfl)) ?_
        refine J_mono (w_iload_n C (jd jdt_Mo_plays 41 rfl) rfl) ?_
        refine J_bind (fun v9 hv9 => ?_)
        refine J_mono (w_iald C (jkf_12_61 hy0) hv9 (jd jdt_Mo_plays 42 rfl)) ?_
        refine J_mono (w_aload_n C (jd jdt_Mo_plays 43 rfl) rfl) ?_
        refine J_mono (jg_Mo_407 C hy0 (jd jdt_Mo_plays 44 rfl)) ?_
        refine J_mono (w_iadd C (jd jdt_Mo_plays 45 rfl)) ?_
        refine J_bind (fun M10 hM10 => ?_)
        refine J_mono (w_iast C F (jkf_12_61 hy0) hM10 (jd jdt_Mo_plays 46 rfl)) ?_
        refine J_mono (w_aload_n C (jd jdt_Mo_plays 47 rfl) rfl) ?_
        refine J_mono (jg_Mo_130 C hy0 (jd jdt_Mo_plays 48 rfl)) ?_
        refine J_mono (w_bipush_6 C (jd jdt_Mo_plays 49 rfl)) ?_
        refine J_mono (w_iload_n C (jd jdt_Mo_plays 50 rfl) rfl) ?_
        refine J_mono (w_imul C (jd jdt_Mo_plays 51 rfl)) ?_
        refine J_mono (w_iconst_1 C (jd jdt_Mo_plays 52 rfl)) ?_
        refine J_mono (w_iadd C (jd jdt_Mo_plays 53 rfl)) ?_
        refine J_mono (w_aload_n C (jd jdt_Mo_plays 54 rfl) rfl) ?_
        refine J_mono (jg_Mo_130 C hy0 (jd jdt_Mo_plays 55 rfl)) ?_
        refine J_mono (w_iload_n C (jd jdt_Mo_plays 56 rfl) rfl) ?_
        refine J_mono (w_iconst_1 C (jd jdt_Mo_plays 57 rfl)) ?_
        refine J_mono (w_iadd C (jd jdt_Mo_plays 58 rfl)) ?_
        refine J_bind (fun v11 hv11 => ?_)
        refine J_mono (w_iald C (jkf_12_61 hy0) hv11 (jd jdt_Mo_plays 59 rfl)) ?_
        refine J_mono (w_aload_n C (jd jdt_Mo_plays 60 rfl) rfl) ?_
        refine J_mono (jg_Mo_419 C hy0 (jd jdt_Mo_plays 61 rfl)) ?_
        refine J_mono (w_iadd C (jd jdt_Mo_plays 62 rfl)) ?_
        refine J_bind (fun M12 hM12 => ?_)
        refine J_mono (w_iast C F (jkf_12_61 hy0) hM12 (jd jdt_Mo_plays 63 rfl)) ?_
        refine J_mono (w_aload_n C (jd jdt_Mo_plays 64 rfl) rfl) ?_
        refine J_mono (jg_Mo_130 C hy0 (jd jdt_Mo_plays 65 rfl)) ?_
        refine J_mono (w_bipush_6 C (jd jdt_Mo_plays 66 rfl)) ?_
        refine J_mono (w_iload_n C (jd jdt_Mo_plays 67 rfl) rfl) ?_
        refine J_mono (w_imul C (jd jdt_Mo_plays 68 rfl)) ?_
        refine J_mono (w_iconst_2 C (jd jdt_Mo_plays 69 rfl)) ?_
        refine J_mono (w_iadd C (jd jdt_Mo_plays 70 rfl)) ?_
        refine J_mono (w_aload_n C (jd jdt_Mo_plays 71 rfl) rfl) ?_
        refine J_mono (jg_Mo_130 C hy0 (jd jdt_Mo_plays 72 rfl)) ?_
        refine J_mono (w_iload_n C (jd jdt_Mo_plays 73 rfl) rfl) ?_
        refine J_mono (w_iconst_2 C (jd jdt_Mo_plays 74 rfl)) ?_
        refine J_mono (w_iadd C (jd jdt_Mo_plays 75 rfl)) ?_
        refine J_bind (fun v13 hv13 => ?_)
        refine J_mono (w_iald C (jkf_12_61 hy0) hv13 (jd jdt_Mo_plays 76 rfl)) ?_
        refine J_mono (w_aload_n C (jd jdt_Mo_plays 77 rfl) rfl) ?_
        refine J_mono (jg_Mo_401 C hy0 (jd jdt_Mo_plays 78 rfl)) ?_
        refine J_mono (w_iadd C (jd jdt_Mo_plays 79 rfl)) ?_
        refine J_bind (fun M14 hM14 => ?_)
        refine J_mono (w_iast C F (jkf_12_61 hy0) hM14 (jd jdt_Mo_plays 80 rfl)) ?_
        refine J_mono (w_aload_n C (jd jdt_Mo_plays 81 rfl) rfl) ?_
        refine J_mono (jg_Mo_130 C hy0 (jd jdt_Mo_plays 82 rfl)) ?_
        refine J_mono (w_bipush_6 C (jd jdt_Mo_plays 83 rfl)) ?_
        refine J_mono (w_iload_n C (jd jdt_Mo_plays 84 rfl) rfl) ?_
        refine J_mono (w_imul C (jd jdt_Mo_plays 85 rfl)) ?_
        refine J_mono (w_iconst_3 C (jd jdt_Mo_plays 86 rfl)) ?_
        refine J_mono (w_iadd C (jd jdt_Mo_plays 87 rfl)) ?_
        refine J_mono (w_aload_n C (jd jdt_Mo_plays 88 rfl) rfl) ?_
        refine J_mono (jg_Mo_130 C hy0 (jd jdt_Mo_plays 89 rfl)) ?_
        refine J_mono (w_iload_n C (jd jdt_Mo_plays 90 rfl) rfl) ?_
        refine J_mono (w_iconst_3 C (jd jdt_Mo_plays 91 rfl)) ?_
        refine J_mono (w_iadd C (jd jdt_Mo_plays 92 rfl)) ?_
        refine J_bind (fun v15 hv15 => ?_)
        refine J_mono (w_iald C (jkf_12_61 hy0) hv15 (jd jdt_Mo_plays 93 rfl)) ?_
        refine J_mono (w_aload_n C (jd jdt_Mo_plays 94 rfl) rfl) ?_
        refine J_mono (jg_Mo_410 C hy0 (jd jdt_Mo_plays 95 rfl)) ?_
        refine J_mono (w_iadd C (jd jdt_Mo_plays 96 rfl)) ?_
        refine J_bind (fun M16 hM16 => ?_)
        refine J_mono (w_iast C F (jkf_12_61 hy0) hM16 (jd jdt_Mo_plays 97 rfl)) ?_
        refine J_mono (w_aload_n C (jd jdt_Mo_plays 98 rfl) rfl) ?_
        refine J_mono (jg_Mo_130 C hy0 (jd jdt_Mo_plays 99 rfl)) ?_
        refine J_mono (w_bipush_6 C (jd jdt_Mo_plays 100 rfl)) ?_
        refine J_mono (w_iload_n C (jd jdt_Mo_plays 101 rfl) rfl) ?_
        refine J_mono (w_imul C (jd jdt_Mo_plays 102 rfl)) ?_
        refine J_mono (w_iconst_5 C (jd jdt_Mo_plays 103 rfl)) ?_
        refine J_mono (w_iadd C (jd jdt_Mo_plays 104 rfl)) ?_
        refine J_mono (w_aload_n C (jd jdt_Mo_plays 105 rfl) rfl) ?_
        refine J_mono (jg_Mo_130 C hy0 (jd jdt_Mo_plays 106 rfl)) ?_
        refine J_mono (w_iload_n C (jd jdt_Mo_plays 107 rfl) rfl) ?_
        refine J_mono (w_iconst_5 C (jd jdt_Mo_plays 108 rfl)) ?_
        refine J_mono (w_iadd C (jd jdt_Mo_plays 109 rfl)) ?_
        refine J_bind (fun v17 hv17 => ?_)
        refine J_mono (w_iald C (jkf_12_61 hy0) hv17 (jd jdt_Mo_plays 110 rfl)) ?_
        refine J_mono (w_aload_n C (jd jdt_Mo_plays 111 rfl) rfl) ?_
        refine J_mono (jg_Mo_398 C hy0 (jd jdt_Mo_plays 112 rfl)) ?_
        refine J_seq (fun (q18 : Int32) => Wk p l e R s m args below meth c G 3 Q 0 0 jN0 (jce G M16) 178 [some (.ref y0), some (.int x1), none] [.int q18, .int v17, .int ((6 * x1) + 5), .ref (jpf y0 61)]) ?_ (fun q18 hq18 => ?_)
        · refine J_br (w_if_eq (y := 0) C (jd jdt_Mo_plays 113 rfl) rfl) (fun h19 => J_pos h19 ?_) (fun h19 => J_neg h19 ?_)
          · refine J_mono (w_iconst_0 C (jd jdt_Mo_plays 116 rfl)) ?_
            exact J_some (fun hx => Wk_sb hx ⟨rfl, rfl, trivial⟩)
          · refine J_mono (w_iconst_1 C (jd jdt_Mo_plays 114 rfl)) ?_
            refine J_mono (w_goto C (jd jdt_Mo_plays 115 rfl) rfl) ?_
            exact J_some (fun hx => Wk_sb hx ⟨rfl, rfl, trivial⟩)
        · refine J_mono (w_iadd C (jd jdt_Mo_plays 117 rfl)) ?_
          refine J_bind (fun M20 hM20 => ?_)
          refine J_mono (w_iast C F (jkf_12_61 hy0) hM20 (jd jdt_Mo_plays 118 rfl)) ?_
          refine J_mono (w_iinc (v := x1 + 1) (ls' := [some (.ref y0), some (.int (x1 + 1)), none]) C (jd jdt_Mo_plays 119 rfl) rfl rfl (by decide) rfl rfl) ?_
          refine J_mono (w_goto C (jd jdt_Mo_plays 120 rfl) rfl) ?_
          exact J_sub (ih (x1 + 1) M20) ⟨rfl, rfl, trivial⟩
  refine J_seq (fun (q21 : SM) => Wk p l e R s m args below meth c G 3 Q 0 0 jN0 (jce G q21) 186 [none, none, none] []) (J_sub (L32 a0 hp0 jfuel 1 q5) ⟨rfl, rfl, trivial⟩) (fun q21 hq21 => ?_)
  exact J_some (fun hx => hR q21 hx _ _ (jd jdt_Mo_plays 121 rfl))
end
theorem C_Mo_plays (l : Launch) (G : JG) (F : jF G = false) (a0 : Nat) (hp0 : jkd a0 12) (M : SM) {q : SM} (hf : f_Mo_plays a0 M = some q) : jMet l jy_Mo_plays jb_Mo_plays 3 none 5 0 0 G [.ref a0] jN0 (jce G M) none jN0 (jce G q) :=
  j_met jo_Mo_plays (by decide) (Nat.le_of_ble_eq_true rfl) (fun p e s m args below meth c C hr hm => K_Mo_plays C F (Nat.le_refl _) a0 hp0 M (fun t => t = q) (fun M' hX pc ls hd => by cases hX; exact w_vret C hr hd) _ hf rfl)
def lp_Mo_stands_10 (y0 : Nat) : Nat → Int32 → SM → Option (SM)
  | 0, _, _ => none
  | n + 1, x1, M => if x1 < 4 then ((aI M (jpf y0 28) x1).bind fun v2 => (aS M (jpf y0 28) (4 + x1) v2).bind fun M3 => lp_Mo_stands_10 y0 n (x1 + 1) M3) else (some M)
def lp_Mo_stands_37 (y0 : Nat) : Nat → Int32 → SM → Option (SM)
  | 0, _, _ => none
  | n + 1, x1, M => if x1 < 24 then ((aL M (jpf y0 29) x1).bind fun v6 => (aSL M (jpf y0 29) (24 + x1) v6).bind fun M7 => lp_Mo_stands_37 y0 n (x1 + 1) M7) else (some M)
def lp_Mo_stands_66 (y0 : Nat) : Nat → Int32 → SM → Option (SM)
  | 0, _, _ => none
  | n + 1, x1, M => if x1 < 12 then ((aI M (jpf y0 32) x1).bind fun v10 => (aS M (jpf y0 32) (12 + x1) v10).bind fun M11 => (aI M11 (jpf y0 33) x1).bind fun v12 => (aS M11 (jpf y0 33) (12 + x1) v12).bind fun M13 => (aI M13 (jpf y0 34) x1).bind fun v14 => (aS M13 (jpf y0 34) (12 + x1) v14).bind fun M15 => lp_Mo_stands_66 y0 n (x1 + 1) M15) else (some M)
def lp_Mo_stands_125 (y0 : Nat) : Nat → Int32 → SM → Option (SM)
  | 0, _, _ => none
  | n + 1, x1, M => if x1 < 8 then ((aI M (jpf y0 35) x1).bind fun v18 => (aS M (jpf y0 35) (8 + x1) v18).bind fun M19 => (aI M19 (jpf y0 37) x1).bind fun v20 => (aS M19 (jpf y0 37) (8 + x1) v20).bind fun M21 => (aI M21 (jpf y0 38) x1).bind fun v22 => (aS M21 (jpf y0 38) (8 + x1) v22).bind fun M23 => (aI M23 (jpf y0 39) x1).bind fun v24 => (aS M23 (jpf y0 39) (8 + x1) v24).bind fun M25 => lp_Mo_stands_125 y0 n (x1 + 1) M25) else (some M)
def lp_Mo_stands_199 (y0 : Nat) : Nat → Int32 → SM → Option (SM)
  | 0, _, _ => none
  | n + 1, x1, M => if x1 < 488 then ((aI M (jpf y0 36) x1).bind fun v28 => (aS M (jpf y0 36) (488 + x1) v28).bind fun M29 => lp_Mo_stands_199 y0 n (x1 + 1) M29) else (some M)
def f_Mo_stands (a0 : Nat) (M : SM) : Option SM := (lp_Mo_stands_10 a0 jfuel 0 (sI M a0 31 (M.1 a0 30))).bind fun q4 => (lp_Mo_stands_37 a0 jfuel 0 q4).bind fun q8 => (lp_Mo_stands_66 a0 jfuel 0 q8).bind fun q16 => (lp_Mo_stands_125 a0 jfuel 0 q16).bind fun q26 => (lp_Mo_stands_199 a0 jfuel 0 q26).bind fun q30 => (aI q30 (jpf a0 40) 0).bind fun v31 => (aS q30 (jpf a0 40) 1 v31).bind fun M32 => (aI M32 (jpf a0 41) 0).bind fun v33 => (aS M32 (jpf a0 41) 1 v33).bind fun M34 => (f_Mo_plays a0 (sI (sI M34 a0 63 0) a0 65 0)).bind fun q35 => some q35
section
variable {p : Program} {l : Launch} {e : Env} {R : Room} {s : State} {m : MethodId} {args : Array Value} {below : List Frame} {meth : Method} {c : Code} {G : JG} {D : Nat} {Q : State → Prop}
set_option maxHeartbeats 4000000 in
set_option maxRecDepth 20000 in
theorem K_Mo_stands (C : jCx p R s m args meth c G jb_Mo_stands 2 D "SluicePitModel") (F : jF G = false) (hD : 6 ≤ D) (a0 : Nat) (hp0 : jkd a0 12) (M : SM) (X : SM → Prop) (hR : ∀ M', X M' → ∀ (pc : Nat) (ls : List (Option Value)), decode jb_Mo_stands pc = .ok (.return_, 1) → Wk p l e R s m args below meth c G 2 Q 0 0 jN0 (jce G M') pc ls []) : J X (f_Mo_stands a0 M) (Wk p l e R s m args below meth c G 2 Q 0 0 jN0 (jce G M) 0 [some (.ref a0), none] []) := by
  unfold f_Mo_stands
  refine J_mono (w_aload_n C (jd jdt_Mo_stands 0 rfl) rfl) ?_
  refine J_mono (w_aload_n C (jd jdt_Mo_stands 1 rfl) rfl) ?_
  refine J_mono (jg_Mo_280 C hp0 (jd jdt_Mo_stands 2 rfl)) ?_
  refine J_mono (jp_Mo_367 C F hp0 (jd jdt_Mo_stands 3 rfl)) ?_
  refine J_mono (w_iconst_0 C (jd jdt_Mo_stands 4 rfl)) ?_
  refine J_mono (w_istore_n (ls' := [some (.ref a0), some (.int 0)]) C (jd jdt_Mo_stands 5 rfl) (by decide) rfl rfl) ?_
  have L10 : ∀ (y0 : Nat) (hy0 : jkd y0 12) (n : Nat) (x1 : Int32) (M : SM), J (fun (q4 : SM) => Wk p l e R s m args below meth c G 2 Q 0 0 jN0 (jce G q4) 35 [some (.ref y0), none] []) (lp_Mo_stands_10 y0 n x1 M) (Wk p l e R s m args below meth c G 2 Q 0 0 jN0 (jce G M) 10 [some (.ref y0), some (.int x1)] []) := by
    intro y0 hy0 n
    induction n with
    | zero => intro x1 M; exact J_none
    | succ n ih =>
      intro x1 M
      unfold lp_Mo_stands_10
      refine J_mono (w_iload_n C (jd jdt_Mo_stands 6 rfl) rfl) ?_
      refine J_mono (w_iconst_4 C (jd jdt_Mo_stands 7 rfl)) ?_
      refine J_br (w_icmp_ge C (jd jdt_Mo_stands 8 rfl) rfl) (fun h1 => J_pos h1 ?_) (fun h1 => J_neg h1 ?_)
      · refine J_mono (w_aload_n C (jd jdt_Mo_stands 9 rfl) rfl) ?_
        refine J_mono (jg_Mo_69 C hy0 (jd jdt_Mo_stands 10 rfl)) ?_
        refine J_mono (w_iconst_4 C (jd jdt_Mo_stands 11 rfl)) ?_
        refine J_mono (w_iload_n C (jd jdt_Mo_stands 12 rfl) rfl) ?_
        refine J_mono (w_iadd C (jd jdt_Mo_stands 13 rfl)) ?_
        refine J_mono (w_aload_n C (jd jdt_Mo_stands 14 rfl) rfl) ?_
        refine J_mono (jg_Mo_69 C hy0 (jd jdt_Mo_stands 15 rfl)) ?_
        refine J_mono (w_iload_n C (jd jdt_Mo_stands 16 rfl) rfl) ?_
        refine J_bind (fun v2 hv2 => ?_)
        refine J_mono (w_iald C (jkf_12_28 hy0) hv2 (jd jdt_Mo_stands 17 rfl)) ?_
        refine J_bind (fun M3 hM3 => ?_)
        refine J_mono (w_iast C F (jkf_12_28 hy0) hM3 (jd jdt_Mo_stands 18 rfl)) ?_
        refine J_mono (w_iinc (v := x1 + 1) (ls' := [some (.ref y0), some (.int (x1 + 1))]) C (jd jdt_Mo_stands 19 rfl) rfl rfl (by decide) rfl rfl) ?_
        refine J_mono (w_goto C (jd jdt_Mo_stands 20 rfl) rfl) ?_
        exact J_sub (ih (x1 + 1) M3) ⟨rfl, rfl, trivial⟩
      · exact J_some (fun hx => Wk_sb hx ⟨rfl, trivial⟩)
  refine J_seq (fun (q4 : SM) => Wk p l e R s m args below meth c G 2 Q 0 0 jN0 (jce G q4) 35 [some (.ref a0), none] []) (J_sub (L10 a0 hp0 jfuel 0 (sI M a0 31 (M.1 a0 30))) ⟨rfl, rfl, trivial⟩) (fun q4 hq4 => ?_)
  refine J_mono (w_iconst_0 C (jd jdt_Mo_stands 21 rfl)) ?_
  refine J_mono (w_istore_n (ls' := [some (.ref a0), some (.int 0)]) C (jd jdt_Mo_stands 22 rfl) (by decide) rfl rfl) ?_
  have L37 : ∀ (y0 : Nat) (hy0 : jkd y0 12) (n : Nat) (x1 : Int32) (M : SM), J (fun (q8 : SM) => Wk p l e R s m args below meth c G 2 Q 0 0 jN0 (jce G q8) 64 [some (.ref y0), none] []) (lp_Mo_stands_37 y0 n x1 M) (Wk p l e R s m args below meth c G 2 Q 0 0 jN0 (jce G M) 37 [some (.ref y0), some (.int x1)] []) := by
    intro y0 hy0 n
    induction n with
    | zero => intro x1 M; exact J_none
    | succ n ih =>
      intro x1 M
      unfold lp_Mo_stands_37
      refine J_mono (w_iload_n C (jd jdt_Mo_stands 23 rfl) rfl) ?_
      refine J_mono (w_bipush_24 C (jd jdt_Mo_stands 24 rfl)) ?_
      refine J_br (w_icmp_ge C (jd jdt_Mo_stands 25 rfl) rfl) (fun h5 => J_pos h5 ?_) (fun h5 => J_neg h5 ?_)
      · refine J_mono (w_aload_n C (jd jdt_Mo_stands 26 rfl) rfl) ?_
        refine J_mono (jg_Mo_72 C hy0 (jd jdt_Mo_stands 27 rfl)) ?_
        refine J_mono (w_bipush_24 C (jd jdt_Mo_stands 28 rfl)) ?_
        refine J_mono (w_iload_n C (jd jdt_Mo_stands 29 rfl) rfl) ?_
        refine J_mono (w_iadd C (jd jdt_Mo_stands 30 rfl)) ?_
        refine J_mono (w_aload_n C (jd jdt_Mo_stands 31 rfl) rfl) ?_
        refine J_mono (jg_Mo_72 C hy0 (jd jdt_Mo_stands 32 rfl)) ?_
        refine J_mono (w_iload_n C (jd jdt_Mo_stands 33 rfl) rfl) ?_
        refine J_bind (fun v6 hv6 => ?_)
        refine J_mono (w_lald C (jkf_12_29 hy0) hv6 (jd jdt_Mo_stands 34 rfl)) ?_
        refine J_bind (fun M7 hM7 => ?_)
        refine J_mono (w_last C F (jkf_12_29 hy0) hM7 (jd jdt_Mo_stands 35 rfl)) ?_
        refine J_mono (w_iinc (v := x1 + 1) (ls' := [some (.ref y0), some (.int (x1 + 1))]) C (jd jdt_Mo_stands 36 rfl) rfl rfl (by decide) rfl rfl) ?_
        refine J_mono (w_goto C (jd jdt_Mo_stands 37 rfl) rfl) ?_
        exact J_sub (ih (x1 + 1) M7) ⟨rfl, rfl, trivial⟩
      · exact J_some (fun hx => Wk_sb hx ⟨rfl, trivial⟩)
  refine J_seq (fun (q8 : SM) => Wk p l e R s m args below meth c G 2 Q 0 0 jN0 (jce G q8) 64 [some (.ref a0), none] []) (J_sub (L37 a0 hp0 jfuel 0 q4) ⟨rfl, rfl, trivial⟩) (fun q8 hq8 => ?_)
  refine J_mono (w_iconst_0 C (jd jdt_Mo_stands 38 rfl)) ?_
  refine J_mono (w_istore_n (ls' := [some (.ref a0), some (.int 0)]) C (jd jdt_Mo_stands 39 rfl) (by decide) rfl rfl) ?_
  have L66 : ∀ (y0 : Nat) (hy0 : jkd y0 12) (n : Nat) (x1 : Int32) (M : SM), J (fun (q16 : SM) => Wk p l e R s m args below meth c G 2 Q 0 0 jN0 (jce G q16) 123 [some (.ref y0), none] []) (lp_Mo_stands_66 y0 n x1 M) (Wk p l e R s m args below meth c G 2 Q 0 0 jN0 (jce G M) 66 [some (.ref y0), some (.int x1)] []) := by
    intro y0 hy0 n
    induction n with
    | zero => intro x1 M; exact J_none
    | succ n ih =>
      intro x1 M
      unfold lp_Mo_stands_66
      refine J_mono (w_iload_n C (jd jdt_Mo_stands 40 rfl) rfl) ?_
      refine J_mono (w_bipush_12 C (jd jdt_Mo_stands 41 rfl)) ?_
      refine J_br (w_icmp_ge C (jd jdt_Mo_stands 42 rfl) rfl) (fun h9 => J_pos h9 ?_) (fun h9 => J_neg h9 ?_)
      · refine J_mono (w_aload_n C (jd jdt_Mo_stands 43 rfl) rfl) ?_
        refine J_mono (jg_Mo_76 C hy0 (jd jdt_Mo_stands 44 rfl)) ?_
        refine J_mono (w_bipush_12 C (jd jdt_Mo_stands 45 rfl)) ?_
        refine J_mono (w_iload_n C (jd jdt_Mo_stands 46 rfl) rfl) ?_
        refine J_mono (w_iadd C (jd jdt_Mo_stands 47 rfl)) ?_
        refine J_mono (w_aload_n C (jd jdt_Mo_stands 48 rfl) rfl) ?_
        refine J_mono (jg_Mo_76 C hy0 (jd jdt_Mo_stands 49 rfl)) ?_
        refine J_mono (w_iload_n C (jd jdt_Mo_stands 50 rfl) rfl) ?_
        refine J_bind (fun v10 hv10 => ?_)
        refine J_mono (w_iald C (jkf_12_32 hy0) hv10 (jd jdt_Mo_stands 51 rfl)) ?_
        refine J_bind (fun M11 hM11 => ?_)
        refine J_mono (w_iast C F (jkf_12_32 hy0) hM11 (jd jdt_Mo_stands 52 rfl)) ?_
        refine J_mono (w_aload_n C (jd jdt_Mo_stands 53 rfl) rfl) ?_
        refine J_mono (jg_Mo_79 C hy0 (jd jdt_Mo_stands 54 rfl)) ?_
        refine J_mono (w_bipush_12 C (jd jdt_Mo_stands 55 rfl)) ?_
        refine J_mono (w_iload_n C (jd jdt_Mo_stands 56 rfl) rfl) ?_
        refine J_mono (w_iadd C (jd jdt_Mo_stands 57 rfl)) ?_
        refine J_mono (w_aload_n C (jd jdt_Mo_stands 58 rfl) rfl) ?_
        refine J_mono (jg_Mo_79 C hy0 (jd jdt_Mo_stands 59 rfl)) ?_
        refine J_mono (w_iload_n C (jd jdt_Mo_stands 60 rfl) rfl) ?_
        refine J_bind (fun v12 hv12 => ?_)
        refine J_mono (w_iald C (jkf_12_33 hy0) hv12 (jd jdt_Mo_stands 61 rfl)) ?_
        refine J_bind (fun M13 hM13 => ?_)
        refine J_mono (w_iast C F (jkf_12_33 hy0) hM13 (jd jdt_Mo_stands 62 rfl)) ?_
        refine J_mono (w_aload_n C (jd jdt_Mo_stands 63 rfl) rfl) ?_
        refine J_mono (jg_Mo_82 C hy0 (jd jdt_Mo_stands 64 rfl)) ?_
        refine J_mono (w_bipush_12 C (jd jdt_Mo_stands 65 rfl)) ?_
        refine J_mono (w_iload_n C (jd jdt_Mo_stands 66 rfl) rfl) ?_
        refine J_mono (w_iadd C (jd jdt_Mo_stands 67 rfl)) ?_
        refine J_mono (w_aload_n C (jd jdt_Mo_stands 68 rfl) rfl) ?_
        refine J_mono (jg_Mo_82 C hy0 (jd jdt_Mo_stands 69 rfl)) ?_
        refine J_mono (w_iload_n C (jd jdt_Mo_stands 70 rfl) rfl) ?_
        refine J_bind (fun v14 hv14 => ?_)
        refine J_mono (w_iald C (jkf_12_34 hy0) hv14 (jd jdt_Mo_stands 71 rfl)) ?_
        refine J_bind (fun M15 hM15 => ?_)
        refine J_mono (w_iast C F (jkf_12_34 hy0) hM15 (jd jdt_Mo_stands 72 rfl)) ?_
        refine J_mono (w_iinc (v := x1 + 1) (ls' := [some (.ref y0), some (.int (x1 + 1))]) C (jd jdt_Mo_stands 73 rfl) rfl rfl (by decide) rfl rfl) ?_
        refine J_mono (w_goto C (jd jdt_Mo_stands 74 rfl) rfl) ?_
        exact J_sub (ih (x1 + 1) M15) ⟨rfl, rfl, trivial⟩
      · exact J_some (fun hx => Wk_sb hx ⟨rfl, trivial⟩)
  refine J_seq (fun (q16 : SM) => Wk p l e R s m args below meth c G 2 Q 0 0 jN0 (jce G q16) 123 [some (.ref a0), none] []) (J_sub (L66 a0 hp0 jfuel 0 q8) ⟨rfl, rfl, trivial⟩) (fun q16 hq16 => ?_)
  refine J_mono (w_iconst_0 C (jd jdt_Mo_stands 75 rfl)) ?_
  refine J_mono (w_istore_n (ls' := [some (.ref a0), some (.int 0)]) C (jd jdt_Mo_stands 76 rfl) (by decide) rfl rfl) ?_
  have L125 : ∀ (y0 : Nat) (hy0 : jkd y0 12) (n : Nat) (x1 : Int32) (M : SM), J (fun (q26 : SM) => Wk p l e R s m args below meth c G 2 Q 0 0 jN0 (jce G q26) 197 [some (.ref y0), none] []) (lp_Mo_stands_125 y0 n x1 M) (Wk p l e R s m args below meth c G 2 Q 0 0 jN0 (jce G M) 125 [some (.ref y0), some (.int x1)] []) := by
    intro y0 hy0 n
    induction n with
    | zero => intro x1 M; exact J_none
    | succ n ih =>
      intro x1 M
      unfold lp_Mo_stands_125
      refine J_mono (w_iload_n C (jd jdt_Mo_stands 77 rfl) rfl) ?_
      refine J_mono (w_bipush_8 C (jd jdt_Mo_stands 78 rfl)) ?_
      refine J_br (w_icmp_ge C (jd jdt_Mo_stands 79 rfl) rfl) (fun h17 => J_pos h17 ?_) (fun h17 => J_neg h17 ?_)
      · refine J_mono (w_aload_n C (jd jdt_Mo_stands 80 rfl) rfl) ?_
        refine J_mono (jg_Mo_85 C hy0 (jd jdt_Mo_stands 81 rfl)) ?_
        refine J_mono (w_bipush_8 C (jd jdt_Mo_stands 82 rfl)) ?_
        refine J_mono (w_iload_n C (jd jdt_Mo_stands 83 rfl) rfl) ?_
        refine J_mono (w_iadd C (jd jdt_Mo_stands 84 rfl)) ?_
        refine J_mono (w_aload_n C (jd jdt_Mo_stands 85 rfl) rfl) ?_
        refine J_mono (jg_Mo_85 C hy0 (jd jdt_Mo_stands 86 rfl)) ?_
        refine J_mono (w_iload_n C (jd jdt_Mo_stands 87 rfl) rfl) ?_
        refine J_bind (fun v18 hv18 => ?_)
        refine J_mono (w_iald C (jkf_12_35 hy0) hv18 (jd jdt_Mo_stands 88 rfl)) ?_
        refine J_bind (fun M19 hM19 => ?_)
        refine J_mono (w_iast C F (jkf_12_35 hy0) hM19 (jd jdt_Mo_stands 89 rfl)) ?_
        refine J_mono (w_aload_n C (jd jdt_Mo_stands 90 rfl) rfl) ?_
        refine J_mono (jg_Mo_91 C hy0 (jd jdt_Mo_stands 91 rfl)) ?_
        refine J_mono (w_bipush_8 C (jd jdt_Mo_stands 92 rfl)) ?_
        refine J_mono (w_iload_n C (jd jdt_Mo_stands 93 rfl) rfl) ?_
        refine J_mono (w_iadd C (jd jdt_Mo_stands 94 rfl)) ?_
        refine J_mono (w_aload_n C (jd jdt_Mo_stands 95 rfl) rfl) ?_
        refine J_mono (jg_Mo_91 C hy0 (jd jdt_Mo_stands 96 rfl)) ?_
        refine J_mono (w_iload_n C (jd jdt_Mo_stands 97 rfl) rfl) ?_
        refine J_bind (fun v20 hv20 => ?_)
        refine J_mono (w_iald C (jkf_12_37 hy0) hv20 (jd jdt_Mo_stands 98 rfl)) ?_
        refine J_bind (fun M21 hM21 => ?_)
        refine J_mono (w_iast C F (jkf_12_37 hy0) hM21 (jd jdt_Mo_stands 99 rfl)) ?_
        refine J_mono (w_aload_n C (jd jdt_Mo_stands 100 rfl) rfl) ?_
        refine J_mono (jg_Mo_94 C hy0 (jd jdt_Mo_stands 101 rfl)) ?_
        refine J_mono (w_bipush_8 C (jd jdt_Mo_stands 102 rfl)) ?_
        refine J_mono (w_iload_n C (jd jdt_Mo_stands 103 rfl) rfl) ?_
        refine J_mono (w_iadd C (jd jdt_Mo_stands 104 rfl)) ?_
        refine J_mono (w_aload_n C (jd jdt_Mo_stands 105 rfl) rfl) ?_
        refine J_mono (jg_Mo_94 C hy0 (jd jdt_Mo_stands 106 rfl)) ?_
        refine J_mono (w_iload_n C (jd jdt_Mo_stands 107 rfl) rfl) ?_
        refine J_bind (fun v22 hv22 => ?_)
        refine J_mono (w_iald C (jkf_12_38 hy0) hv22 (jd jdt_Mo_stands 108 rfl)) ?_
        refine J_bind (fun M23 hM23 => ?_)
        refine J_mono (w_iast C F (jkf_12_38 hy0) hM23 (jd jdt_Mo_stands 109 rfl)) ?_
        refine J_mono (w_aload_n C (jd jdt_Mo_stands 110 rfl) rfl) ?_
        refine J_mono (jg_Mo_97 C hy0 (jd jdt_Mo_stands 111 rfl)) ?_
        refine J_mono (w_bipush_8 C (jd jdt_Mo_stands 112 rfl)) ?_
        refine J_mono (w_iload_n C (jd jdt_Mo_stands 113 rfl) rfl) ?_
        refine J_mono (w_iadd C (jd jdt_Mo_stands 114 rfl)) ?_
        refine J_mono (w_aload_n C (jd jdt_Mo_stands 115 rfl) rfl) ?_
        refine J_mono (jg_Mo_97 C hy0 (jd jdt_Mo_stands 116 rfl)) ?_
        refine J_mono (w_iload_n C (jd jdt_Mo_stands 117 rfl) rfl) ?_
        refine J_bind (fun v24 hv24 => ?_)
        refine J_mono (w_iald C (jkf_12_39 hy0) hv24 (jd jdt_Mo_stands 118 rfl)) ?_
        refine J_bind (fun M25 hM25 => ?_)
        refine J_mono (w_iast C F (jkf_12_39 hy0) hM25 (jd jdt_Mo_stands 119 rfl)) ?_
        refine J_mono (w_iinc (v := x1 + 1) (ls' := [some (.ref y0), some (.int (x1 + 1))]) C (jd jdt_Mo_stands 120 rfl) rfl rfl (by decide) rfl rfl) ?_
        refine J_mono (w_goto C (jd jdt_Mo_stands 121 rfl) rfl) ?_
        exact J_sub (ih (x1 + 1) M25) ⟨rfl, rfl, trivial⟩
      · exact J_some (fun hx => Wk_sb hx ⟨rfl, trivial⟩)
  refine J_seq (fun (q26 : SM) => Wk p l e R s m args below meth c G 2 Q 0 0 jN0 (jce G q26) 197 [some (.ref a0), none] []) (J_sub (L125 a0 hp0 jfuel 0 q16) ⟨rfl, rfl, trivial⟩) (fun q26 hq26 => ?_)
  refine J_mono (w_iconst_0 C (jd jdt_Mo_stands 122 rfl)) ?_
  refine J_mono (w_istore_n (ls' := [some (.ref a0), some (.int 0)]) C (jd jdt_Mo_stands 123 rfl) (by decide) rfl rfl) ?_
  have L199 : ∀ (y0 : Nat) (hy0 : jkd y0 12) (n : Nat) (x1 : Int32) (M : SM), J (fun (q30 : SM) => Wk p l e R s m args below meth c G 2 Q 0 0 jN0 (jce G q30) 228 [some (.ref y0), none] []) (lp_Mo_stands_199 y0 n x1 M) (Wk p l e R s m args below meth c G 2 Q 0 0 jN0 (jce G M) 199 [some (.ref y0), some (.int x1)] []) := by
    intro y0 hy0 n
    induction n with
    | zero => intro x1 M; exact J_none
    | succ n ih =>
      intro x1 M
      unfold lp_Mo_stands_199
      refine J_mono (w_iload_n C (jd jdt_Mo_stands 124 rfl) rfl) ?_
      refine J_mono (w_sipush_488 C (jd jdt_Mo_stands 125 rfl)) ?_
      refine J_br (w_icmp_ge C (jd jdt_Mo_stands 126 rfl) rfl) (fun h27 => J_pos h27 ?_) (fun h27 => J_neg h27 ?_)
      · refine J_mono (w_aload_n C (jd jdt_Mo_stands 127 rfl) rfl) ?_
        refine J_mono (jg_Mo_88 C hy0 (jd jdt_Mo_stands 128 rfl)) ?_
        refine J_mono (w_sipush_488 C (jd jdt_Mo_stands 129 rfl)) ?_
        refine J_mono (w_iload_n C (jd jdt_Mo_stands 130 rfl) rfl) ?_
        refine J_mono (w_iadd C (jd jdt_Mo_stands 131 rfl)) ?_
        refine J_mono (w_aload_n C (jd jdt_Mo_stands 132 rfl) rfl) ?_
        refine J_mono (jg_Mo_88 C hy0 (jd jdt_Mo_stands 133 rfl)) ?_
        refine J_mono (w_iload_n C (jd jdt_Mo_stands 134 rfl) rfl) ?_
        refine J_bind (fun v28 hv28 => ?_)
        refine J_mono (w_iald C (jkf_12_36 hy0) hv28 (jd jdt_Mo_stands 135 rfl)) ?_
        refine J_bind (fun M29 hM29 => ?_)
        refine J_mono (w_iast C F (jkf_12_36 hy0) hM29 (jd jdt_Mo_stands 136 rfl)) ?_
        refine J_mono (w_iinc (v := x1 + 1) (ls' := [some (.ref y0), some (.int (x1 + 1))]) C (jd jdt_Mo_stands 137 rfl) rfl rfl (by decide) rfl rfl) ?_
        refine J_mono (w_goto C (jd jdt_Mo_stands 138 rfl) rfl) ?_
        exact J_sub (ih (x1 + 1) M29) ⟨rfl, rfl, trivial⟩
      · exact J_some (fun hx => Wk_sb hx ⟨rfl, trivial⟩)
  refine J_seq (fun (q30 : SM) => Wk p l e R s m args below meth c G 2 Q 0 0 jN0 (jce G q30) 228 [some (.ref a0), none] []) (J_sub (L199 a0 hp0 jfuel 0 q26) ⟨rfl, rfl, trivial⟩) (fun q30 hq30 => ?_)
  refine J_mono (w_aload_n C (jd jdt_Mo_stands 139 rfl) rfl) ?_
  refine J_mono (jg_Mo_100 C hp0 (jd jdt_Mo_stands 140 rfl)) ?_
  refine J_mono (w_iconst_1 C (jd jdt_Mo_stands 141 rfl)) ?_
  refine J_mono (w_aload_n C (jd jdt_Mo_stands 142 rfl) rfl) ?_
  refine J_mono (jg_Mo_100 C hp0 (jd jdt_Mo_stands 143 rfl)) ?_
  refine J_mono (w_iconst_0 C (jd jdt_Mo_stands 144 rfl)) ?_
  refine J_bind (fun v31 hv31 => ?_)
  refine J_mono (w_iald C (jkf_12_40 hp0) hv31 (jd jdt_Mo_stands 145 rfl)) ?_
  refine J_bind (fun M32 hM32 => ?_)
  refine J_mono (w_iast C F (jkf_12_40 hp0) hM32 (jd jdt_Mo_stands 146 rfl)) ?_
  refine J_mono (w_aload_n C (jd jdt_Mo_stands 147 rfl) rfl) ?_
  refine J_mono (jg_Mo_103 C hp0 (jd jdt_Mo_stands 148 rfl)) ?_
  refine J_mono (w_iconst_1 C (jd jdt_Mo_stands 149 rfl)) ?_
  refine J_mono (w_aload_n C (jd jdt_Mo_stands 150 rfl) rfl) ?_
  refine J_mono (jg_Mo_103 C hp0 (jd jdt_Mo_stands 151 rfl)) ?_
  refine J_mono (w_iconst_0 C (jd jdt_Mo_stands 152 rfl)) ?_
  refine J_bind (fun v33 hv33 => ?_)
  refine J_mono (w_iald C (jkf_12_41 hp0) hv33 (jd jdt_Mo_stands 153 rfl)) ?_
  refine J_bind (fun M34 hM34 => ?_)
  refine J_mono (w_iast C F (jkf_12_41 hp0) hM34 (jd jdt_Mo_stands 154 rfl)) ?_
  refine J_mono (w_aload_n C (jd jdt_Mo_stands 155 rfl) rfl) ?_
  refine J_mono (w_iconst_0 C (jd jdt_Mo_stands 156 rfl)) ?_
  refine J_mono (jp_Mo_370 C F hp0 (jd jdt_Mo_stands 157 rfl)) ?_
  refine J_mono (w_aload_n C (jd jdt_Mo_stands 158 rfl) rfl) ?_
  refine J_mono (w_iconst_0 C (jd jdt_Mo_stands 159 rfl)) ?_
  refine J_mono (jp_Mo_373 C F hp0 (Or.inl rfl) (jd jdt_Mo_stands 160 rfl)) ?_
  refine J_mono (w_aload_n C (jd jdt_Mo_stands 161 rfl) rfl) ?_
  refine J_bind (fun q35 hq35 => ?_)
  refine J_mono (jc_Mo_377 C hp0 (C_Mo_plays l G F a0 hp0 (sI (sI M34 a0 63 0) a0 65 0) hq35) rfl (Nat.le_trans (Nat.le_of_ble_eq_true rfl : 5 + 1 ≤ 6) hD) (jd jdt_Mo_stands 162 rfl)) ?_
  exact J_some (fun hx => hR q35 hx _ _ (jd jdt_Mo_stands 163 rfl))
end
theorem C_Mo_stands (l : Launch) (G : JG) (F : jF G = false) (a0 : Nat) (hp0 : jkd a0 12) (M : SM) {q : SM} (hf : f_Mo_stands a0 M = some q) : jMet l jy_Mo_stands jb_Mo_stands 2 none 6 0 0 G [.ref a0] jN0 (jce G M) none jN0 (jce G q) :=
  j_met jo_Mo_stands (by decide) (Nat.le_of_ble_eq_true rfl) (fun p e s m args below meth c C hr hm => K_Mo_stands C F (Nat.le_refl _) a0 hp0 M (fun t => t = q) (fun M' hX pc ls hd => by cases hX; exact w_vret C hr hd) _ hf rfl)
def lp_Mo_opera_6 (y0 : Nat) : Nat → Int32 → SM → Option (SM)
  | 0, _, _ => none
  | n + 1, x1, M => if x1 < 4 then ((aS M (jpf y0 28) x1 0).bind fun M3 => lp_Mo_opera_6 y0 n (x1 + 1) M3) else (some M)
def lp_Mo_opera_26 (y0 : Nat) : Nat → Int32 → SM → Option (SM)
  | 0, _, _ => none
  | n + 1, x1, M => if x1 < 12 then ((aS M (jpf y0 32) x1 0).bind fun M6 => (aS M6 (jpf y0 33) x1 0).bind fun M7 => (aS M7 (jpf y0 34) x1 0).bind fun M8 => lp_Mo_opera_26 y0 n (x1 + 1) M8) else (some M)
def lp_Mo_opera_104 (y0 : Nat) : Nat → SM → Option (SM)
  | 0, _ => none
  | n + 1, M => if (M.1 y0 5) = 0 then ((f_Mo_look y0 M).bind fun q16 => if q16.1 = (-1) then (some q16.2) else ((f_Mo_statementTold y0 q16.2).bind fun q18 => lp_Mo_opera_104 y0 n q18)) else (some M)
def f_Mo_opera (a0 : Nat) (M : SM) : Option (Int32 × SM) := (f_Mo_starts a0 M).bind fun q1 => (lp_Mo_opera_6 a0 jfuel 0 q1).bind fun q4 => (lp_Mo_opera_26 a0 jfuel 0 q4).bind fun q9 => (aS q9 (jpf a0 40) 0 0).bind fun M10 => (aS M10 (jpf a0 41) 0 99).bind fun M11 => (f_Mo_asks a0 (jpf a0 10) M11).bind fun q12 => (f_Mo_number a0 2 12 q12).bind fun q13 => (f_Mo_asksSign a0 59 (sI q13.2 a0 30 q13.1)).bind fun q14 => (lp_Mo_opera_104 a0 jfuel (sI q14 a0 42 1)).bind fun q19 => if ((sI (sI q19 a0 7 (q19.1 a0 5)) a0 8 ((sI q19 a0 7 (q19.1 a0 5)).1 a0 6)).1 a0 5) = 0 then ((f_Mo_stands a0 (sI (sI q19 a0 7 (q19.1 a0 5)) a0 8 ((sI q19 a0 7 (q19.1 a0 5)).1 a0 6))).bind fun q21 => some (q21.1 a0 42, q21)) else (some ((-1), sI (sI q19 a0 7 (q19.1 a0 5)) a0 8 ((sI q19 a0 7 (q19.1 a0 5)).1 a0 6)))
section
variable {p : Program} {l : Launch} {e : Env} {R : Room} {s : State} {m : MethodId} {args : Array Value} {below : List Frame} {meth : Method} {c : Code} {G : JG} {D : Nat} {Q : State → Prop}
set_option maxHeartbeats 4000000 in
set_option maxRecDepth 20000 in
theorem K_Mo_opera (C : jCx p R s m args meth c G jb_Mo_opera 2 D "SluicePitModel") (F : jF G = false) (hD : 10 ≤ D) (a0 : Nat) (hp0 : jkd a0 12) (M : SM) (X : (Int32 × SM) → Prop) (hR : ∀ v M', X (v, M') → ∀ (pc : Nat) (ls : List (Option Value)), decode jb_Mo_opera pc = .ok (.ireturn, 1) → narrow FieldType.int (.int v) = .int v → Wk p l e R s m args below meth c G 2 Q 0 0 jN0 (jce G M') pc ls [.int v]) : J X (f_Mo_opera a0 M) (Wk p l e R s m args below meth c G 2 Q 0 0 jN0 (jce G M) 0 [some (.ref a0), none] []) := by
  unfold f_Mo_opera
  refine J_mono (w_aload_n C (jd jdt_Mo_opera 0 rfl) rfl) ?_
  refine J_bind (fun q1 hq1 => ?_)
  refine J_mono (jc_Mo_355 C hp0 (C_Mo_starts l G F a0 hp0 M hq1) rfl (Nat.le_trans (Nat.le_of_ble_eq_true rfl : 1 + 1 ≤ 10) hD) (jd jdt_Mo_opera 1 rfl)) ?_
  refine J_mono (w_iconst_0 C (jd jdt_Mo_opera 2 rfl)) ?_
  refine J_mono (w_istore_n (ls' := [some (.ref a0), some (.int 0)]) C (jd jdt_Mo_opera 3 rfl) (by decide) rfl rfl) ?_
  have L6 : ∀ (y0 : Nat) (hy0 : jkd y0 12) (n : Nat) (x1 : Int32) (M : SM), J (fun (q4 : SM) => Wk p l e R s m args below meth c G 2 Q 0 0 jN0 (jce G q4) 24 [some (.ref y0), none] []) (lp_Mo_opera_6 y0 n x1 M) (Wk p l e R s m args below meth c G 2 Q 0 0 jN0 (jce G M) 6 [some (.ref y0), some (.int x1)] []) := by
    intro y0 hy0 n
    induction n with
    | zero => intro x1 M; exact J_none
    | succ n ih =>
      intro x1 M
      unfold lp_Mo_opera_6
      refine J_mono (w_iload_n C (jd jdt_Mo_opera 4 rfl) rfl) ?_
      refine J_mono (w_iconst_4 C (jd jdt_Mo_opera 5 rfl)) ?_
      refine J_br (w_icmp_ge C (jd jdt_Mo_opera 6 rfl) rfl) (fun h2 => J_pos h2 ?_) (fun h2 => J_neg h2 ?_)
      · refine J_mono (w_aload_n C (jd jdt_Mo_opera 7 rfl) rfl) ?_
        refine J_mono (jg_Mo_69 C hy0 (jd jdt_Mo_opera 8 rfl)) ?_
        refine J_mono (w_iload_n C (jd jdt_Mo_opera 9 rfl) rfl) ?_
        refine J_mono (w_iconst_0 C (jd jdt_Mo_opera 10 rfl)) ?_
        refine J_bind (fun M3 hM3 => ?_)
        refine J_mono (w_iast C F (jkf_12_28 hy0) hM3 (jd jdt_Mo_opera 11 rfl)) ?_
        refine J_mono (w_iinc (v := x1 + 1) (ls' := [some (.ref y0), some (.int (x1 + 1))]) C (jd jdt_Mo_opera 12 rfl) rfl rfl (by decide) rfl rfl) ?_
        refine J_mono (w_goto C (jd jdt_Mo_opera 13 rfl) rfl) ?_
        exact J_sub (ih (x1 + 1) M3) ⟨rfl, rfl, trivial⟩
      · exact J_some (fun hx => Wk_sb hx ⟨rfl, trivial⟩)
  refine J_seq (fun (q4 : SM) => Wk p l e R s m args below meth c G 2 Q 0 0 jN0 (jce G q4) 24 [some (.ref a0), none] []) (J_sub (L6 a0 hp0 jfuel 0 q1) ⟨rfl, rfl, trivial⟩) (fun q4 hq4 => ?_)
  refine J_mono (w_iconst_0 C (jd jdt_Mo_opera 14 rfl)) ?_
  refine J_mono (w_istore_n (ls' := [some (.ref a0), some (.int 0)]) C (jd jdt_Mo_opera 15 rfl) (by decide) rfl rfl) ?_
  have L26 : ∀ (y0 : Nat) (hy0 : jkd y0 12) (n : Nat) (x1 : Int32) (M : SM), J (fun (q9 : SM) => Wk p l e R s m args below meth c G 2 Q 0 0 jN0 (jce G q9) 59 [some (.ref y0), none] []) (lp_Mo_opera_26 y0 n x1 M) (Wk p l e R s m args below meth c G 2 Q 0 0 jN0 (jce G M) 26 [some (.ref y0), some (.int x1)] []) := by
    intro y0 hy0 n
    induction n with
    | zero => intro x1 M; exact J_none
    | succ n ih =>
      intro x1 M
      unfold lp_Mo_opera_26
      refine J_mono (w_iload_n C (jd jdt_Mo_opera 16 rfl) rfl) ?_
      refine J_mono (w_bipush_12 C (jd jdt_Mo_opera 17 rfl)) ?_
      refine J_br (w_icmp_ge C (jd jdt_Mo_opera 18 rfl) rfl) (fun h5 => J_pos h5 ?_) (fun h5 => J_neg h5 ?_)
      · refine J_mono (w_aload_n C (jd jdt_Mo_opera 19 rfl) rfl) ?_
        refine J_mono (jg_Mo_76 C hy0 (jd jdt_Mo_opera 20 rfl)) ?_
        refine J_mono (w_iload_n C (jd jdt_Mo_opera 21 rfl) rfl) ?_
        refine J_mono (w_iconst_0 C (jd jdt_Mo_opera 22 rfl)) ?_
        refine J_bind (fun M6 hM6 => ?_)
        refine J_mono (w_iast C F (jkf_12_32 hy0) hM6 (jd jdt_Mo_opera 23 rfl)) ?_
        refine J_mono (w_aload_n C (jd jdt_Mo_opera 24 rfl) rfl) ?_
        refine J_mono (jg_Mo_79 C hy0 (jd jdt_Mo_opera 25 rfl)) ?_
        refine J_mono (w_iload_n C (jd jdt_Mo_opera 26 rfl) rfl) ?_
        refine J_mono (w_iconst_0 C (jd jdt_Mo_opera 27 rfl)) ?_
        refine J_bind (fun M7 hM7 => ?_)
        refine J_mono (w_iast C F (jkf_12_33 hy0) hM7 (jd jdt_Mo_opera 28 rfl)) ?_
        refine J_mono (w_aload_n C (jd jdt_Mo_opera 29 rfl) rfl) ?_
        refine J_mono (jg_Mo_82 C hy0 (jd jdt_Mo_opera 30 rfl)) ?_
        refine J_mono (w_iload_n C (jd jdt_Mo_opera 31 rfl) rfl) ?_
        refine J_mono (w_iconst_0 C (jd jdt_Mo_opera 32 rfl)) ?_
        refine J_bind (fun M8 hM8 => ?_)
        refine J_mono (w_iast C F (jkf_12_34 hy0) hM8 (jd jdt_Mo_opera 33 rfl)) ?_
        refine J_mono (w_iinc (v := x1 + 1) (ls' := [some (.ref y0), some (.int (x1 + 1))]) C (jd jdt_Mo_opera 34 rfl) rfl rfl (by decide) rfl rfl) ?_
        refine J_mono (w_goto C (jd jdt_Mo_opera 35 rfl) rfl) ?_
        exact J_sub (ih (x1 + 1) M8) ⟨rfl, rfl, trivial⟩
      · exact J_some (fun hx => Wk_sb hx ⟨rfl, trivial⟩)
  refine J_seq (fun (q9 : SM) => Wk p l e R s m args below meth c G 2 Q 0 0 jN0 (jce G q9) 59 [some (.ref a0), none] []) (J_sub (L26 a0 hp0 jfuel 0 q4) ⟨rfl, rfl, trivial⟩) (fun q9 hq9 => ?_)
  refine J_mono (w_aload_n C (jd jdt_Mo_opera 36 rfl) rfl) ?_
  refine J_mono (jg_Mo_100 C hp0 (jd jdt_Mo_opera 37 rfl)) ?_
  refine J_mono (w_iconst_0 C (jd jdt_Mo_opera 38 rfl)) ?_
  refine J_mono (w_iconst_0 C (jd jdt_Mo_opera 39 rfl)) ?_
  refine J_bind (fun M10 hM10 => ?_)
  refine J_mono (w_iast C F (jkf_12_40 hp0) hM10 (jd jdt_Mo_opera 40 rfl)) ?_
  refine J_mono (w_aload_n C (jd jdt_Mo_opera 41 rfl) rfl) ?_
  refine J_mono (jg_Mo_103 C hp0 (jd jdt_Mo_opera 42 rfl)) ?_
  refine J_mono (w_iconst_0 C (jd jdt_Mo_opera 43 rfl)) ?_
  refine J_mono (w_bipush_99 C (jd jdt_Mo_opera 44 rfl)) ?_
  refine J_bind (fun M11 hM11 => ?_)
  refine J_mono (w_iast C F (jkf_12_41 hp0) hM11 (jd jdt_Mo_opera 45 rfl)) ?_
  refine J_mono (w_aload_n C (jd jdt_Mo_opera 46 rfl) rfl) ?_
  refine J_mono (w_aload_n C (jd jdt_Mo_opera 47 rfl) rfl) ?_
  refine J_mono (jg_Mo_17 C hp0 (jd jdt_Mo_opera 48 rfl)) ?_
  refine J_bind (fun q12 hq12 => ?_)
  refine J_mono (jc_Mo_304 C hp0 (C_Mo_asks l G F a0 (jpf a0 10) hp0 (jkf_12_10 hp0) M11 hq12) rfl (Nat.le_trans (Nat.le_of_ble_eq_true rfl : 4 + 1 ≤ 10) hD) (jd jdt_Mo_opera 49 rfl)) ?_
  refine J_mono (w_aload_n C (jd jdt_Mo_opera 50 rfl) rfl) ?_
  refine J_mono (w_aload_n C (jd jdt_Mo_opera 51 rfl) rfl) ?_
  refine J_mono (w_iconst_2 C (jd jdt_Mo_opera 52 rfl)) ?_
  refine J_mono (w_bipush_12 C (jd jdt_Mo_opera 53 rfl)) ?_
  refine J_bind (fun q13 hq13 => ?_)
  refine J_mono (jc_Mo_283 C hp0 (C_Mo_number l G F a0 2 12 hp0 q12 hq13) rfl (Nat.le_trans (Nat.le_of_ble_eq_true rfl : 2 + 1 ≤ 10) hD) (jd jdt_Mo_opera 54 rfl)) ?_
  refine J_mono (jp_Mo_280 C F hp0 (jd jdt_Mo_opera 55 rfl)) ?_
  refine J_mono (w_aload_n C (jd jdt_Mo_opera 56 rfl) rfl) ?_
  refine J_mono (w_bipush_59 C (jd jdt_Mo_opera 57 rfl)) ?_
  refine J_bind (fun q14 hq14 => ?_)
  refine J_mono (jc_Mo_301 C hp0 (C_Mo_asksSign l G F a0 59 hp0 (sI q13.2 a0 30 q13.1) hq14) rfl (Nat.le_trans (Nat.le_of_ble_eq_true rfl : 3 + 1 ≤ 10) hD) (jd jdt_Mo_opera 58 rfl)) ?_
  refine J_mono (w_aload_n C (jd jdt_Mo_opera 59 rfl) rfl) ?_
  refine J_mono (w_iconst_1 C (jd jdt_Mo_opera 60 rfl)) ?_
  refine J_mono (jp_Mo_333 C F hp0 (jd jdt_Mo_opera 61 rfl)) ?_
  have L104 : ∀ (y0 : Nat) (hy0 : jkd y0 12) (n : Nat)  (M : SM), J (fun (q19 : SM) => Wk p l e R s m args below meth c G 2 Q 0 0 jN0 (jce G q19) 126 [some (.ref y0), none] []) (lp_Mo_opera_104 y0 n M) (Wk p l e R s m args below meth c G 2 Q 0 0 jN0 (jce G M) 104 [some (.ref y0), none] []) := by
    intro y0 hy0 n
    induction n with
    | zero => intro  M; exact J_none
    | succ n ih =>
      intro  M
      unfold lp_Mo_opera_104
      refine J_mono (w_aload_n C (jd jdt_Mo_opera 62 rfl) rfl) ?_
      refine J_mono (jg_Mo_218 C hy0 (jd jdt_Mo_opera 63 rfl)) ?_
      refine J_br (w_if_ne (y := 0) C (jd jdt_Mo_opera 64 rfl) rfl) (fun h15 => J_pos h15 ?_) (fun h15 => J_neg h15 ?_)
      · refine J_mono (w_aload_n C (jd jdt_Mo_opera 65 rfl) rfl) ?_
        refine J_bind (fun q16 hq16 => ?_)
        refine J_mono (jc_Mo_230 C hy0 (C_Mo_look l G F y0 hy0 M hq16) rfl (Nat.le_trans (Nat.le_of_ble_eq_true rfl : 1 + 1 ≤ 10) hD) (jd jdt_Mo_opera 66 rfl)) ?_
        refine J_mono (w_iconst_m1 C (jd jdt_Mo_opera 67 rfl)) ?_
        refine J_br (w_icmp_eq C (jd jdt_Mo_opera 68 rfl) rfl) (fun h17 => J_pos h17 ?_) (fun h17 => J_neg h17 ?_)
        · exact J_some (fun hx => Wk_sb hx ⟨rfl, trivial⟩)
        · refine J_mono (w_aload_n C (jd jdt_Mo_opera 69 rfl) rfl) ?_
          refine J_bind (fun q18 hq18 => ?_)
          refine J_mono (jc_Mo_358 C hy0 (C_Mo_statementTold l G F y0 hy0 q16.2 hq18) rfl (Nat.le_trans (Nat.le_of_ble_eq_true rfl : 9 + 1 ≤ 10) hD) (jd jdt_Mo_opera 70 rfl)) ?_
          refine J_mono (w_goto C (jd jdt_Mo_opera 71 rfl) rfl) ?_
          exact J_sub (ih q18) ⟨rfl, trivial⟩
      · exact J_some (fun hx => Wk_sb hx ⟨rfl, trivial⟩)
  refine J_seq (fun (q19 : SM) => Wk p l e R s m args below meth c G 2 Q 0 0 jN0 (jce G q19) 126 [some (.ref a0), none] []) (J_sub (L104 a0 hp0 jfuel (sI q14 a0 42 1)) ⟨rfl, trivial⟩) (fun q19 hq19 => ?_)
  refine J_mono (w_aload_n C (jd jdt_Mo_opera 72 rfl) rfl) ?_
  refine J_mono (w_aload_n C (jd jdt_Mo_opera 73 rfl) rfl) ?_
  refine J_mono (jg_Mo_218 C hp0 (jd jdt_Mo_opera 74 rfl)) ?_
  refine J_mono (jp_Mo_361 C F hp0 (jd jdt_Mo_opera 75 rfl)) ?_
  refine J_mono (w_aload_n C (jd jdt_Mo_opera 76 rfl) rfl) ?_
  refine J_mono (w_aload_n C (jd jdt_Mo_opera 77 rfl) rfl) ?_
  refine J_mono (jg_Mo_221 C hp0 (jd jdt_Mo_opera 78 rfl)) ?_
  refine J_mono (jp_Mo_13 C F hp0 (jd jdt_Mo_opera 79 rfl)) ?_
  refine J_mono (w_aload_n C (jd jdt_Mo_opera 80 rfl) rfl) ?_
  refine J_mono (jg_Mo_218 C hp0 (jd jdt_Mo_opera 81 rfl)) ?_
  refine J_br (w_if_eq (y := 0) C (jd jdt_Mo_opera 82 rfl) rfl) (fun h20 => J_pos h20 ?_) (fun h20 => J_neg h20 ?_)
  · refine J_mono (w_aload_n C (jd jdt_Mo_opera 85 rfl) rfl) ?_
    refine J_bind (fun q21 hq21 => ?_)
    refine J_mono (jc_Mo_364 C hp0 (C_Mo_stands l G F a0 hp0 (sI (sI q19 a0 7 (q19.1 a0 5)) a0 8 ((sI q19 a0 7 (q19.1 a0 5)).1 a0 6)) hq21) rfl (Nat.le_trans (Nat.le_of_ble_eq_true rfl : 6 + 1 ≤ 10) hD) (jd jdt_Mo_opera 86 rfl)) ?_
    refine J_mono (w_aload_n C (jd jdt_Mo_opera 87 rfl) rfl) ?_
    refine J_mono (jg_Mo_333 C hp0 (jd jdt_Mo_opera 88 rfl)) ?_
    exact J_some (fun hx => hR (q21.1 a0 42) q21 hx _ _ (jd jdt_Mo_opera 89 rfl) rfl)
  · refine J_mono (w_iconst_m1 C (jd jdt_Mo_opera 83 rfl)) ?_
    exact J_some (fun hx => hR (-1) (sI (sI q19 a0 7 (q19.1 a0 5)) a0 8 ((sI q19 a0 7 (q19.1 a0 5)).1 a0 6)) hx _ _ (jd jdt_Mo_opera 84 rfl) rfl)
end
theorem C_Mo_opera (l : Launch) (G : JG) (F : jF G = false) (a0 : Nat) (hp0 : jkd a0 12) (M : SM) {q : (Int32 × SM)} (hf : f_Mo_opera a0 M = some q) : jMet l jy_Mo_opera jb_Mo_opera 2 (some FieldType.int) 10 0 0 G [.ref a0] jN0 (jce G M) (some (.int q.1)) jN0 (jce G q.2) :=
  j_met jo_Mo_opera (by decide) (Nat.le_of_ble_eq_true rfl) (fun p e s m args below meth c C hr hm => K_Mo_opera C F (Nat.le_refl _) a0 hp0 M (fun t => t = q) (fun v M' hX pc ls hd hn => by cases hX; exact w_iret C hr hn hd) _ hf rfl)
def f_Mo_fault (a0 : Nat) (a1 : Int32) (M : SM) : Option Int32 := if a1 = 0 then (some (M.1 a0 7)) else (if a1 = 1 then (some (M.1 a0 8)) else (some (-1)))
section
variable {p : Program} {l : Launch} {e : Env} {R : Room} {s : State} {m : MethodId} {args : Array Value} {below : List Frame} {meth : Method} {c : Code} {G : JG} {D : Nat} {Q : State → Prop}
set_option maxHeartbeats 4000000 in
set_option maxRecDepth 20000 in
theorem K_Mo_fault (C : jCx p R s m args meth c G jb_Mo_fault 2 D "SluicePitModel") (F : jF G = false) (hD : 1 ≤ D) (a0 : Nat) (a1 : Int32) (hp0 : jkd a0 12) (M : SM) (X : Int32 → Prop) (hR : ∀ v, X v → ∀ (pc : Nat) (ls : List (Option Value)), decode jb_Mo_fault pc = .ok (.ireturn, 1) → narrow FieldType.int (.int v) = .int v → Wk p l e R s m args below meth c G 2 Q 0 0 jN0 (jce G M) pc ls [.int v]) : J X (f_Mo_fault a0 a1 M) (Wk p l e R s m args below meth c G 2 Q 0 0 jN0 (jce G M) 0 [some (.ref a0), some (.int a1)] []) := by
  unfold f_Mo_fault
  refine J_mono (w_iload_n C (jd jdt_Mo_fault 0 rfl) rfl) ?_
  refine J_br (w_if_ne (y := 0) C (jd jdt_Mo_fault 1 rfl) rfl) (fun h1 => J_pos h1 ?_) (fun h1 => J_neg h1 ?_)
  · refine J_mono (w_aload_n C (jd jdt_Mo_fault 2 rfl) rfl) ?_
    refine J_mono (jg_Mo_361 C hp0 (jd jdt_Mo_fault 3 rfl)) ?_
    refine J_mono (w_goto C (jd jdt_Mo_fault 4 rfl) rfl) ?_
    exact J_some (fun hx => hR (M.1 a0 7) hx _ _ (jd jdt_Mo_fault 12 rfl) rfl)
  · refine J_mono (w_iload_n C (jd jdt_Mo_fault 5 rfl) rfl) ?_
    refine J_mono (w_iconst_1 C (jd jdt_Mo_fault 6 rfl)) ?_
    refine J_br (w_icmp_ne C (jd jdt_Mo_fault 7 rfl) rfl) (fun h2 => J_pos h2 ?_) (fun h2 => J_neg h2 ?_)
    · refine J_mono (w_aload_n C (jd jdt_Mo_fault 8 rfl) rfl) ?_
      refine J_mono (jg_Mo_13 C hp0 (jd jdt_Mo_fault 9 rfl)) ?_
      refine J_mono (w_goto C (jd jdt_Mo_fault 10 rfl) rfl) ?_
      exact J_some (fun hx => hR (M.1 a0 8) hx _ _ (jd jdt_Mo_fault 12 rfl) rfl)
    · refine J_mono (w_iconst_m1 C (jd jdt_Mo_fault 11 rfl)) ?_
      exact J_some (fun hx => hR (-1) hx _ _ (jd jdt_Mo_fault 12 rfl) rfl)
end
theorem C_Mo_fault (l : Launch) (G : JG) (F : jF G = false) (a0 : Nat) (a1 : Int32) (hp0 : jkd a0 12) (M : SM) {q : Int32} (hf : f_Mo_fault a0 a1 M = some q) : jMet l jy_Mo_fault jb_Mo_fault 2 (some FieldType.int) 1 0 0 G [.ref a0, .int a1] jN0 (jce G M) (some (.int q)) jN0 (jce G M) :=
  j_met jo_Mo_fault (by decide) (Nat.le_of_ble_eq_true rfl) (fun p e s m args below meth c C hr hm => K_Mo_fault C F (Nat.le_refl _) a0 a1 hp0 M (fun t => t = q) (fun v hX pc ls hd hn => by cases hX; exact w_iret C hr hn hd) _ hf rfl)
def lp_Mo_sluiceMany_4 (y0 : Nat) (M : SM) : Nat → Int32 → Int32 → Option (Int32)
  | 0, _, _ => none
  | n + 1, x1, x2 => if x2 < (M.1 y0 31) then ((aI M (jpf y0 34) (12 + x2)).bind fun v2 => lp_Mo_sluiceMany_4 y0 M n (x1 + v2) (x2 + 1)) else (some x1)
def f_Mo_sluiceMany (a0 : Nat) (M : SM) : Option Int32 := (lp_Mo_sluiceMany_4 a0 M jfuel 0 0).bind fun q3 => some q3
section
variable {p : Program} {l : Launch} {e : Env} {R : Room} {s : State} {m : MethodId} {args : Array Value} {below : List Frame} {meth : Method} {c : Code} {G : JG} {D : Nat} {Q : State → Prop}
set_option maxHeartbeats 4000000 in
set_option maxRecDepth 20000 in
theorem K_Mo_sluiceMany (C : jCx p R s m args meth c G jb_Mo_sluiceMany 3 D "SluicePitModel") (F : jF G = false) (hD : 1 ≤ D) (a0 : Nat) (hp0 : jkd a0 12) (M : SM) (X : Int32 → Prop) (hR : ∀ v, X v → ∀ (pc : Nat) (ls : List (Option Value)), decode jb_Mo_sluiceMany pc = .ok (.ireturn, 1) → narrow FieldType.int (.int v) = .int v → Wk p l e R s m args below meth c G 3 Q 0 0 jN0 (jce G M) pc ls [.int v]) : J X (f_Mo_sluiceMany a0 M) (Wk p l e R s m args below meth c G 3 Q 0 0 jN0 (jce G M) 0 [some (.ref a0), none, none] []) := by
  unfold f_Mo_sluiceMany
  refine J_mono (w_iconst_0 C (jd jdt_Mo_sluiceMany 0 rfl)) ?_
  refine J_mono (w_istore_n (ls' := [some (.ref a0), some (.int 0), none]) C (jd jdt_Mo_sluiceMany 1 rfl) (by decide) rfl rfl) ?_
  refine J_mono (w_iconst_0 C (jd jdt_Mo_sluiceMany 2 rfl)) ?_
  refine J_mono (w_istore_n (ls' := [some (.ref a0), some (.int 0), some (.int 0)]) C (jd jdt_Mo_sluiceMany 3 rfl) (by decide) rfl rfl) ?_
  have L4 : ∀ (y0 : Nat) (hy0 : jkd y0 12) (n : Nat) (x1 : Int32) (x2 : Int32), J (fun (q3 : Int32) => Wk p l e R s m args below meth c G 3 Q 0 0 jN0 (jce G M) 30 [none, some (.int q3), none] []) (lp_Mo_sluiceMany_4 y0 M n x1 x2) (Wk p l e R s m args below meth c G 3 Q 0 0 jN0 (jce G M) 4 [some (.ref y0), some (.int x1), some (.int x2)] []) := by
    intro y0 hy0 n
    induction n with
    | zero => intro x1 x2; exact J_none
    | succ n ih =>
      intro x1 x2
      unfold lp_Mo_sluiceMany_4
      refine J_mono (w_iload_n C (jd jdt_Mo_sluiceMany 4 rfl) rfl) ?_
      refine J_mono (w_aload_n C (jd jdt_Mo_sluiceMany 5 rfl) rfl) ?_
      refine J_mono (jg_Mo_367 C hy0 (jd jdt_Mo_sluiceMany 6 rfl)) ?_
      refine J_br (w_icmp_ge C (jd jdt_Mo_sluiceMany 7 rfl) rfl) (fun h1 => J_pos h1 ?_) (fun h1 => J_neg h1 ?_)
      · refine J_mono (w_iload_n C (jd jdt_Mo_sluiceMany 8 rfl) rfl) ?_
        refine J_mono (w_aload_n C (jd jdt_Mo_sluiceMany 9 rfl) rfl) ?_
        refine J_mono (jg_Mo_82 C hy0 (jd jdt_Mo_sluiceMany 10 rfl)) ?_
        refine J_mono (w_bipush_12 C (jd jdt_Mo_sluiceMany 11 rfl)) ?_
        refine J_mono (w_iload_n C (jd jdt_Mo_sluiceMany 12 rfl) rfl) ?_
        refine J_mono (w_iadd C (jd jdt_Mo_sluiceMany 13 rfl)) ?_
        refine J_bind (fun v2 hv2 => ?_)
        refine J_mono (w_iald C (jkf_12_34 hy0) hv2 (jd jdt_Mo_sluiceMany 14 rfl)) ?_
        refine J_mono (w_iadd C (jd jdt_Mo_sluiceMany 15 rfl)) ?_
        refine J_mono (w_istore_n (ls' := [some (.ref y0), some (.int (x1 + v2)), some (.int x2)]) C (jd jdt_Mo_sluiceMany 16 rfl) (by decide) rfl rfl) ?_
        refine J_mono (w_iinc (v := x2 + 1) (ls' := [some (.ref y0), some (.int (x1 + v2)), some (.int (x2 + 1))]) C (jd jdt_Mo_sluiceMany 17 rfl) rfl rfl (by decide) rfl rfl) ?_
        refine J_mono (w_goto C (jd jdt_Mo_sluiceMany 18 rfl) rfl) ?_
        exact J_sub (ih (x1 + v2) (x2 + 1)) ⟨rfl, rfl, rfl, trivial⟩
      · exact J_some (fun hx => Wk_sb hx ⟨rfl, trivial⟩)
  refine J_seq (fun (q3 : Int32) => Wk p l e R s m args below meth c G 3 Q 0 0 jN0 (jce G M) 30 [none, some (.int q3), none] []) (J_sub (L4 a0 hp0 jfuel 0 0) ⟨rfl, rfl, rfl, trivial⟩) (fun q3 hq3 => ?_)
  refine J_mono (w_iload_n C (jd jdt_Mo_sluiceMany 19 rfl) rfl) ?_
  exact J_some (fun hx => hR q3 hx _ _ (jd jdt_Mo_sluiceMany 20 rfl) rfl)
end
theorem C_Mo_sluiceMany (l : Launch) (G : JG) (F : jF G = false) (a0 : Nat) (hp0 : jkd a0 12) (M : SM) {q : Int32} (hf : f_Mo_sluiceMany a0 M = some q) : jMet l jy_Mo_sluiceMany jb_Mo_sluiceMany 3 (some FieldType.int) 1 0 0 G [.ref a0] jN0 (jce G M) (some (.int q)) jN0 (jce G M) :=
  j_met jo_Mo_sluiceMany (by decide) (Nat.le_of_ble_eq_true rfl) (fun p e s m args below meth c C hr hm => K_Mo_sluiceMany C F (Nat.le_refl _) a0 hp0 M (fun t => t = q) (fun v hX pc ls hd hn => by cases hX; exact w_iret C hr hn hd) _ hf rfl)
def lp_Mo_longest_4 (y0 : Nat) (M : SM) : Nat → Int32 → Int32 → Option (Int32)
  | 0, _, _ => none
  | n + 1, x1, x2 => (f_Mo_deskMany y0 M).bind fun q1 => if x2 < q1 then ((f_Mo_barsOf y0 x2 M).bind fun q3 => (if x1 < q3 then ((f_Mo_barsOf y0 x2 M).bind fun q6 => some q6) else (some x1) : Option (Int32)).bind fun q4 => lp_Mo_longest_4 y0 M n q4 (x2 + 1)) else (some x1)
def f_Mo_longest (a0 : Nat) (M : SM) : Option Int32 := (lp_Mo_longest_4 a0 M jfuel 0 0).bind fun q7 => some q7
section
variable {p : Program} {l : Launch} {e : Env} {R : Room} {s : State} {m : MethodId} {args : Array Value} {below : List Frame} {meth : Method} {c : Code} {G : JG} {D : Nat} {Q : State → Prop}
set_option maxHeartbeats 4000000 in
set_option maxRecDepth 20000 in
theorem K_Mo_longest (C : jCx p R s m args meth c G jb_Mo_longest 3 D "SluicePitModel") (F : jF G = false) (hD : 2 ≤ D) (a0 : Nat) (hp0 : jkd a0 12) (M : SM) (X : Int32 → Prop) (hR : ∀ v, X v → ∀ (pc : Nat) (ls : List (Option Value)), decode jb_Mo_longest pc = .ok (.ireturn, 1) → narrow FieldType.int (.int v) = .int v → Wk p l e R s m args below meth c G 3 Q 0 0 jN0 (jce G M) pc ls [.int v]) : J X (f_Mo_longest a0 M) (Wk p l e R s m args below meth c G 3 Q 0 0 jN0 (jce G M) 0 [some (.ref a0), none, none] []) := by
  unfold f_Mo_longest
  refine J_mono (w_iconst_0 C (jd jdt_Mo_longest 0 rfl)) ?_
  refine J_mono (w_istore_n (ls' := [some (.ref a0), some (.int 0), none]) C (jd jdt_Mo_longest 1 rfl) (by decide) rfl rfl) ?_
  refine J_mono (w_iconst_0 C (jd jdt_Mo_longest 2 rfl)) ?_
  refine J_mono (w_istore_n (ls' := [some (.ref a0), some (.int 0), some (.int 0)]) C (jd jdt_Mo_longest 3 rfl) (by decide) rfl rfl) ?_
  have L4 : ∀ (y0 : Nat) (hy0 : jkd y0 12) (n : Nat) (x1 : Int32) (x2 : Int32), J (fun (q7 : Int32) => Wk p l e R s m args below meth c G 3 Q 0 0 jN0 (jce G M) 33 [none, some (.int q7), none] []) (lp_Mo_longest_4 y0 M n x1 x2) (Wk p l e R s m args below meth c G 3 Q 0 0 jN0 (jce G M) 4 [some (.ref y0), some (.int x1), some (.int x2)] []) := by
    intro y0 hy0 n
    induction n with
    | zero => intro x1 x2; exact J_none
    | succ n ih =>
      intro x1 x2
      unfold lp_Mo_longest_4
      refine J_mono (w_iload_n C (jd jdt_Mo_longest 4 rfl) rfl) ?_
      refine J_mono (w_aload_n C (jd jdt_Mo_longest 5 rfl) rfl) ?_
      refine J_bind (fun q1 hq1 => ?_)
      refine J_mono (jc_Mo_380 C hy0 (C_Mo_deskMany l G F y0 hy0 M hq1) rfl (Nat.le_trans (Nat.le_of_ble_eq_true rfl : 1 + 1 ≤ 2) hD) (jd jdt_Mo_longest 6 rfl)) ?_
      refine J_br (w_icmp_ge C (jd jdt_Mo_longest 7 rfl) rfl) (fun h2 => J_pos h2 ?_) (fun h2 => J_neg h2 ?_)
      · refine J_mono (w_aload_n C (jd jdt_Mo_longest 8 rfl) rfl) ?_
        refine J_mono (w_iload_n C (jd jdt_Mo_longest 9 rfl) rfl) ?_
        refine J_bind (fun q3 hq3 => ?_)
        refine J_mono (jc_Mo_383 C hy0 (C_Mo_barsOf l G F y0 x2 hy0 M hq3) rfl (Nat.le_trans (Nat.le_of_ble_eq_true rfl : 1 + 1 ≤ 2) hD) (jd jdt_Mo_longest 10 rfl)) ?_
        refine J_mono (w_iload_n C (jd jdt_Mo_longest 11 rfl) rfl) ?_
        refine J_seq (fun (q4 : Int32) => Wk p l e R s m args below meth c G 3 Q 0 0 jN0 (jce G M) 27 [some (.ref y0), some (.int q4), some (.int x2)] []) ?_ (fun q4 hq4 => ?_)
        · refine J_br (w_icmp_le C (jd jdt_Mo_longest 12 rfl) rfl) (fun h5 => J_pos h5 ?_) (fun h5 => J_neg h5 ?_)
          · refine J_mono (w_aload_n C (jd jdt_Mo_longest 13 rfl) rfl) ?_
            refine J_mono (w_iload_n C (jd jdt_Mo_longest 14 rfl) rfl) ?_
            refine J_bind (fun q6 hq6 => ?_)
            refine J_mono (jc_Mo_383 C hy0 (C_Mo_barsOf l G F y0 x2 hy0 M hq6) rfl (Nat.le_trans (Nat.le_of_ble_eq_true rfl : 1 + 1 ≤ 2) hD) (jd jdt_Mo_longest 15 rfl)) ?_
            refine J_mono (w_istore_n (ls' := [some (.ref y0), some (.int q6), some (.int x2)]) C (jd jdt_Mo_longest 16 rfl) (by decide) rfl rfl) ?_
            exact J_some (fun hx => Wk_sb hx ⟨rfl, rfl, rfl, trivial⟩)
          · exact J_some (fun hx => Wk_sb hx ⟨rfl, rfl, rfl, trivial⟩)
        · refine J_mono (w_iinc (v := x2 + 1) (ls' := [some (.ref y0), some (.int q4), some (.int (x2 + 1))]) C (jd jdt_Mo_longest 17 rfl) rfl rfl (by decide) rfl rfl) ?_
          refine J_mono (w_goto C (jd jdt_Mo_longest 18 rfl) rfl) ?_
          exact J_sub (ih q4 (x2 + 1)) ⟨rfl, rfl, rfl, trivial⟩
      · exact J_some (fun hx => Wk_sb hx ⟨rfl, trivial⟩)
  refine J_seq (fun (q7 : Int32) => Wk p l e R s m args below meth c G 3 Q 0 0 jN0 (jce G M) 33 [none, some (.int q7), none] []) (J_sub (L4 a0 hp0 jfuel 0 0) ⟨rfl, rfl, rfl, trivial⟩) (fun q7 hq7 => ?_)
  refine J_mono (w_iload_n C (jd jdt_Mo_longest 19 rfl) rfl) ?_
  exact J_some (fun hx => hR q7 hx _ _ (jd jdt_Mo_longest 20 rfl) rfl)
end
theorem C_Mo_longest (l : Launch) (G : JG) (F : jF G = false) (a0 : Nat) (hp0 : jkd a0 12) (M : SM) {q : Int32} (hf : f_Mo_longest a0 M = some q) : jMet l jy_Mo_longest jb_Mo_longest 3 (some FieldType.int) 2 0 0 G [.ref a0] jN0 (jce G M) (some (.int q)) jN0 (jce G M) :=
  j_met jo_Mo_longest (by decide) (Nat.le_of_ble_eq_true rfl) (fun p e s m args below meth c C hr hm => K_Mo_longest C F (Nat.le_refl _) a0 hp0 M (fun t => t = q) (fun v hX pc ls hd hn => by cases hX; exact w_iret C hr hn hd) _ hf rfl)
def f_Mo_has (a0 : Nat) (a1 : Int32) (M : SM) : Option Int32 := if a1 = 0 then (some (M.1 a0 31)) else (if a1 = 1 then ((f_Mo_deskMany a0 M).bind fun q3 => some q3) else (if a1 = 2 then ((f_Mo_sluiceMany a0 M).bind fun q5 => some q5) else (if a1 = 3 then ((aI M (jpf a0 28) 5).bind fun v7 => some v7) else (if a1 = 4 then ((aI M (jpf a0 28) 6).bind fun v9 => some v9) else (if a1 = 5 then ((aI M (jpf a0 28) 7).bind fun v11 => some v11) else (if a1 = 6 then ((aI M (jpf a0 40) 1).bind fun v13 => some v13) else (if a1 = 7 then ((aI M (jpf a0 41) 1).bind fun v15 => if v15 = 0 then (some 99) else ((aI M (jpf a0 41) 1).bind fun v17 => some v17)) else (if a1 = 8 then ((f_Mo_longest a0 M).bind fun q19 => some q19) else (if a1 = 9 then (some (M.1 a0 63)) else (some (-1)))))))))))
section
variable {p : Program} {l : Launch} {e : Env} {R : Room} {s : State} {m : MethodId} {args : Array Value} {below : List Frame} {meth : Method} {c : Code} {G : JG} {D : Nat} {Q : State → Prop}
set_option maxHeartbeats 4000000 in
set_option maxRecDepth 20000 in
theorem K_Mo_has (C : jCx p R s m args meth c G jb_Mo_has 2 D "SluicePitModel") (F : jF G = false) (hD : 3 ≤ D) (a0 : Nat) (a1 : Int32) (hp0 : jkd a0 12) (M : SM) (X : Int32 → Prop) (hR : ∀ v, X v → ∀ (pc : Nat) (ls : List (Option Value)), decode jb_Mo_has pc = .ok (.ireturn, 1) → narrow FieldType.int (.int v) = .int v → Wk p l e R s m args below meth c G 2 Q 0 0 jN0 (jce G M) pc ls [.int v]) : J X (f_Mo_has a0 a1 M) (Wk p l e R s m args below meth c G 2 Q 0 0 jN0 (jce G M) 0 [some (.ref a0), some (.int a1)] []) := by
  unfold f_Mo_has
  refine J_mono (w_iload_n C (jd jdt_Mo_has 0 rfl) rfl) ?_
  refine J_ite (fun h1 => ?_) (fun h1 => ?_)
  · refine J_mono (w_tsw C h1 (jd jdt_Mo_has 1 rfl) (by decide) (by decide) rfl rfl) ?_
    refine J_mono (w_aload_n C (jd jdt_Mo_has 2 rfl) rfl) ?_
    refine J_mono (jg_Mo_367 C hp0 (jd jdt_Mo_has 3 rfl)) ?_
    exact J_some (fun hx => hR (M.1 a0 31) hx _ _ (jd jdt_Mo_has 4 rfl) rfl)
  · refine J_ite (fun h2 => ?_) (fun h2 => ?_)
    · refine J_mono (w_tsw C h2 (jd jdt_Mo_has 1 rfl) (by decide) (by decide) rfl rfl) ?_
      refine J_mono (w_aload_n C (jd jdt_Mo_has 5 rfl) rfl) ?_
      refine J_bind (fun q3 hq3 => ?_)
      refine J_mono (jc_Mo_380 C hp0 (C_Mo_deskMany l G F a0 hp0 M hq3) rfl (Nat.le_trans (Nat.le_of_ble_eq_true rfl : 1 + 1 ≤ 3) hD) (jd jdt_Mo_has 6 rfl)) ?_
      exact J_some (fun hx => hR q3 hx _ _ (jd jdt_Mo_has 7 rfl) rfl)
    · refine J_ite (fun h4 => ?_) (fun h4 => ?_)
      · refine J_mono (w_tsw C h4 (jd jdt_Mo_has 1 rfl) (by decide) (by decide) rfl rfl) ?_
        refine J_mono (w_aload_n C (jd jdt_Mo_has 8 rfl) rfl) ?_
        refine J_bind (fun q5 hq5 => ?_)
        refine J_mono (jc_Mo_442 C hp0 (C_Mo_sluiceMany l G F a0 hp0 M hq5) rfl (Nat.le_trans (Nat.le_of_ble_eq_true rfl : 1 + 1 ≤ 3) hD) (jd jdt_Mo_has 9 rfl)) ?_
        exact J_some (fun hx => hR q5 hx _ _ (jd jdt_Mo_has 10 rfl) rfl)
      · refine J_ite (fun h6 => ?_) (fun h6 => ?_)
        · refine J_mono (w_tsw C h6 (jd jdt_Mo_has 1 rfl) (by decide) (by decide) rfl rfl) ?_
          refine J_mono (w_aload_n C (jd jdt_Mo_has 11 rfl) rfl) ?_
          refine J_mono (jg_Mo_69 C hp0 (jd jdt_Mo_has 12 rfl)) ?_
          refine J_mono (w_iconst_5 C (jd jdt_Mo_has 13 rfl)) ?_
          refine J_bind (fun v7 hv7 => ?_)
          refine J_mono (w_iald C (jkf_12_28 hp0) hv7 (jd jdt_Mo_has 14 rfl)) ?_
          exact J_some (fun hx => hR v7 hx _ _ (jd jdt_Mo_has 15 rfl) rfl)
        · refine J_ite (fun h8 => ?_) (fun h8 => ?_)
          · refine J_mono (w_tsw C h8 (jd jdt_Mo_has 1 rfl) (by decide) (by decide) rfl rfl) ?_
            refine J_mono (w_aload_n C (jd jdt_Mo_has 16 rfl) rfl) ?_
            refine J_mono (jg_Mo_69 C hp0 (jd jdt_Mo_has 17 rfl)) ?_
            refine J_mono (w_bipush_6 C (jd jdt_Mo_has 18 rfl)) ?_
            refine J_bind (fun v9 hv9 => ?_)
            refine J_mono (w_iald C (jkf_12_28 hp0) hv9 (jd jdt_Mo_has 19 rfl)) ?_
            exact J_some (fun hx => hR v9 hx _ _ (jd jdt_Mo_has 20 rfl) rfl)
          · refine J_ite (fun h10 => ?_) (fun h10 => ?_)
            · refine J_mono (w_tsw C h10 (jd jdt_Mo_has 1 rfl) (by decide) (by decide) rfl rfl) ?_
              refine J_mono (w_aload_n C (jd jdt_Mo_has 21 rfl) rfl) ?_
              refine J_mono (jg_Mo_69 C hp0 (jd jdt_Mo_has 22 rfl)) ?_
              refine J_mono (w_bipush_7 C (jd jdt_Mo_has 23 rfl)) ?_
              refine J_bind (fun v11 hv11 => ?_)
              refine J_mono (w_iald C (jkf_12_28 hp0) hv11 (jd jdt_Mo_has 24 rfl)) ?_
              exact J_some (fun hx => hR v11 hx _ _ (jd jdt_Mo_has 25 rfl) rfl)
            · refine J_ite (fun h12 => ?_) (fun h12 => ?_)
              · refine J_mono (w_tsw C h12 (jd jdt_Mo_has 1 rfl) (by decide) (by decide) rfl rfl) ?_
                refine J_mono (w_aload_n C (jd jdt_Mo_has 26 rfl) rfl) ?_
                refine J_mono (jg_Mo_100 C hp0 (jd jdt_Mo_has 27 rfl)) ?_
                refine J_mono (w_iconst_1 C (jd jdt_Mo_has 28 rfl)) ?_
                refine J_bind (fun v13 hv13 => ?_)
                refine J_mono (w_iald C (jkf_12_40 hp0) hv13 (jd jdt_Mo_has 29 rfl)) ?_
                exact J_some (fun hx => hR v13 hx _ _ (jd jdt_Mo_has 30 rfl) rfl)
              · refine J_ite (fun h14 => ?_) (fun h14 => ?_)
                · refine J_mono (w_tsw C h14 (jd jdt_Mo_has 1 rfl) (by decide) (by decide) rfl rfl) ?_
                  refine J_mono (w_aload_n C (jd jdt_Mo_has 31 rfl) rfl) ?_
                  refine J_mono (jg_Mo_103 C hp0 (jd jdt_Mo_has 32 rfl)) ?_
                  refine J_mono (w_iconst_1 C (jd jdt_Mo_has 33 rfl)) ?_
                  refine J_bind (fun v15 hv15 => ?_)
                  refine J_mono (w_iald C (jkf_12_41 hp0) hv15 (jd jdt_Mo_has 34 rfl)) ?_
                  refine J_br (w_if_ne (y := 0) C (jd jdt_Mo_has 35 rfl) rfl) (fun h16 => J_pos h16 ?_) (fun h16 => J_neg h16 ?_)
                  · refine J_mono (w_bipush_99 C (jd jdt_Mo_has 36 rfl)) ?_
                    refine J_mono (w_goto C (jd jdt_Mo_has 37 rfl) rfl) ?_
                    exact J_some (fun hx => hR 99 hx _ _ (jd jdt_Mo_has 42 rfl) rfl)
                  · refine J_mono (w_aload_n C (jd jdt_Mo_has 38 rfl) rfl) ?_
                    refine J_mono (jg_Mo_103 C hp0 (jd jdt_Mo_has 39 rfl)) ?_
                    refine J_mono (w_iconst_1 C (jd jdt_Mo_has 40 rfl)) ?_
                    refine J_bind (fun v17 hv17 => ?_)
                    refine J_mono (w_iald C (jkf_12_41 hp0) hv17 (jd jdt_Mo_has 41 rfl)) ?_
                    exact J_some (fun hx => hR v17 hx _ _ (jd jdt_Mo_has 42 rfl) rfl)
                · refine J_ite (fun h18 => ?_) (fun h18 => ?_)
                  · refine J_mono (w_tsw C h18 (jd jdt_Mo_has 1 rfl) (by decide) (by decide) rfl rfl) ?_
                    refine J_mono (w_aload_n C (jd jdt_Mo_has 43 rfl) rfl) ?_
                    refine J_bind (fun q19 hq19 => ?_)
                    refine J_mono (jc_Mo_445 C hp0 (C_Mo_longest l G F a0 hp0 M hq19) rfl (Nat.le_trans (Nat.le_of_ble_eq_true rfl : 2 + 1 ≤ 3) hD) (jd jdt_Mo_has 44 rfl)) ?_
                    exact J_some (fun hx => hR q19 hx _ _ (jd jdt_Mo_has 45 rfl) rfl)
                  · refine J_ite (fun h20 => ?_) (fun h20 => ?_)
                    · refine J_mono (w_tsw C h20 (jd jdt_Mo_has 1 rfl) (by decide) (by decide) rfl rfl) ?_
                      refine J_mono (w_aload_n C (jd jdt_Mo_has 46 rfl) rfl) ?_
                      refine J_mono (jg_Mo_370 C hp0 (jd jdt_Mo_has 47 rfl)) ?_
                      exact J_some (fun hx => hR (M.1 a0 63) hx _ _ (jd jdt_Mo_has 48 rfl) rfl)
                    · refine J_mono (w_tswd C (jd jdt_Mo_has 1 rfl) (fun k9 kA kB => by have kC : k9 = 0 ∨ k9 = 1 ∨ k9 = 2 ∨ k9 = 3 ∨ k9 = 4 ∨ k9 = 5 ∨ k9 = 6 ∨ k9 = 7 ∨ k9 = 8 ∨ k9 = 9 := (by omega); rcases kC with rfl|rfl|rfl|rfl|rfl|rfl|rfl|rfl|rfl|rfl <;> first | exact h1 | exact h2 | exact h4 | exact h6 | exact h8 | exact h10 | exact h12 | exact h14 | exact h18 | exact h20) (by decide) (by decide) rfl) ?_
                      refine J_mono (w_iconst_m1 C (jd jdt_Mo_has 49 rfl)) ?_
                      exact J_some (fun hx => hR (-1) hx _ _ (jd jdt_Mo_has 50 rfl) rfl)
end
theorem C_Mo_has (l : Launch) (G : JG) (F : jF G = false) (a0 : Nat) (a1 : Int32) (hp0 : jkd a0 12) (M : SM) {q : Int32} (hf : f_Mo_has a0 a1 M = some q) : jMet l jy_Mo_has jb_Mo_has 2 (some FieldType.int) 3 0 0 G [.ref a0, .int a1] jN0 (jce G M) (some (.int q)) jN0 (jce G M) :=
  j_met jo_Mo_has (by decide) (Nat.le_of_ble_eq_true rfl) (fun p e s m args below meth c C hr hm => K_Mo_has C F (Nat.le_refl _) a0 a1 hp0 M (fun t => t = q) (fun v hX pc ls hd hn => by cases hX; exact w_iret C hr hn hd) _ hf rfl)
def lp_Mo_letter_69  : Nat → Int32 → Int64 → Option (Int32)
  | 0, _, _ => none
  | n + 1, x6, x7 => if 0 < x7 then (lp_Mo_letter_69 n (x6 + 1) (x7 / 27)) else (some x6)
def lp_Mo_letter_104 (y3 : Int32) : Nat → Int64 → Int32 → Option (Int64)
  | 0, _, _ => none
  | n + 1, x4, x7 => if y3 < x7 then (lp_Mo_letter_104 y3 n (x4 / 27) (x7 + (-1))) else (some x4)
def f_Mo_letter (a0 : Nat) (a1 : Int32) (a2 : Int32) (a3 : Int32) (M : SM) : Option Int32 := (f_Mo_isIn a1.toInt64 0 2).bind fun q1 => if q1 = 0 then (some (-1)) else ((aI M (jpf a0 28) (4 + a1)).bind fun v3 => (f_Mo_isIn a2.toInt64 0 (Int32.toInt64 (v3 - 1))).bind fun q4 => if q4 = 0 then (some (-1)) else ((f_Mo_isIn a3.toInt64 0 5).bind fun q6 => if q6 = 0 then (some (-1)) else ((aL M (jpf a0 29) ((24 + (8 * a1)) + a2)).bind fun v8 => (lp_Mo_letter_69 jfuel 0 v8).bind fun q10 => if a3 < q10 then ((lp_Mo_letter_104 a3 jfuel v8 (q10 - 1)).bind fun q13 => some (Int64.toInt32 (q13 - q13 / 27 * 27))) else (some 0))))
section
variable {p : Program} {l : Launch} {e : Env} {R : Room} {s : State} {m : MethodId} {args : Array Value} {below : List Frame} {meth : Method} {c : Code} {G : JG} {D : Nat} {Q : State → Prop}
set_option maxHeartbeats 4000000 in
set_option maxRecDepth 20000 in
theorem K_Mo_letter (C : jCx p R s m args meth c G jb_Mo_letter 9 D "SluicePitModel") (F : jF G = false) (hD : 2 ≤ D) (a0 : Nat) (a1 : Int32) (a2 : Int32) (a3 : Int32) (hp0 : jkd a0 12) (M : SM) (X : Int32 → Prop) (hR : ∀ v, X v → ∀ (pc : Nat) (ls : List (Option Value)), decode jb_Mo_letter pc = .ok (.ireturn, 1) → narrow FieldType.int (.int v) = .int v → Wk p l e R s m args below meth c G 9 Q 0 0 jN0 (jce G M) pc ls [.int v]) : J X (f_Mo_letter a0 a1 a2 a3 M) (Wk p l e R s m args below meth c G 9 Q 0 0 jN0 (jce G M) 0 [some (.ref a0), some (.int a1), some (.int a2), some (.int a3), none, none, none, none, none] []) := by
  unfold f_Mo_letter
  refine J_mono (w_iload_n C (jd jdt_Mo_letter 0 rfl) rfl) ?_
  refine J_mono (w_i2l C (jd jdt_Mo_letter 1 rfl)) ?_
  refine J_mono (w_lconst_0 C (jd jdt_Mo_letter 2 rfl)) ?_
  refine J_mono (w_ldc2 C (jd jdt_Mo_letter 3 rfl) jw_1680) ?_
  refine J_bind (fun q1 hq1 => ?_)
  refine J_mono (jc_Mo_261 C (C_Mo_isIn l G F a1.toInt64 0 2 M hq1) rfl (Nat.le_trans (Nat.le_of_ble_eq_true rfl : 1 + 1 ≤ 2) hD) (jd jdt_Mo_letter 4 rfl)) ?_
  refine J_br (w_if_eq (y := 0) C (jd jdt_Mo_letter 5 rfl) rfl) (fun h2 => J_pos h2 ?_) (fun h2 => J_neg h2 ?_)
  · refine J_mono (w_iconst_m1 C (jd jdt_Mo_letter 26 rfl)) ?_
    exact J_some (fun hx => hR (-1) hx _ _ (jd jdt_Mo_letter 27 rfl) rfl)
  · refine J_mono (w_iload_n C (jd jdt_Mo_letter 6 rfl) rfl) ?_
    refine J_mono (w_i2l C (jd jdt_Mo_letter 7 rfl)) ?_
    refine J_mono (w_lconst_0 C (jd jdt_Mo_letter 8 rfl)) ?_
    refine J_mono (w_aload_n C (jd jdt_Mo_letter 9 rfl) rfl) ?_
    refine J_mono (jg_Mo_69 C hp0 (jd jdt_Mo_letter 10 rfl)) ?_
    refine J_mono (w_iconst_4 C (jd jdt_Mo_letter 11 rfl)) ?_
    refine J_mono (w_iload_n C (jd jdt_Mo_letter 12 rfl) rfl) ?_
    refine J_mono (w_iadd C (jd jdt_Mo_letter 13 rfl)) ?_
    refine J_bind (fun v3 hv3 => ?_)
    refine J_mono (w_iald C (jkf_12_28 hp0) hv3 (jd jdt_Mo_letter 14 rfl)) ?_
    refine J_mono (w_iconst_1 C (jd jdt_Mo_letter 15 rfl)) ?_
    refine J_mono (w_isub C (jd jdt_Mo_letter 16 rfl)) ?_
    refine J_mono (w_i2l C (jd jdt_Mo_letter 17 rfl)) ?_
    refine J_bind (fun q4 hq4 => ?_)
    refine J_mono (jc_Mo_261 C (C_Mo_isIn l G F a2.toInt64 0 (Int32.toInt64 (v3 - 1)) M hq4) rfl (Nat.le_trans (Nat.le_of_ble_eq_true rfl : 1 + 1 ≤ 2) hD) (jd jdt_Mo_letter 18 rfl)) ?_
    refine J_br (w_if_eq (y := 0) C (jd jdt_Mo_letter 19 rfl) rfl) (fun h5 => J_pos h5 ?_) (fun h5 => J_neg h5 ?_)
    · refine J_mono (w_iconst_m1 C (jd jdt_Mo_letter 26 rfl)) ?_
      exact J_some (fun hx => hR (-1) hx _ _ (jd jdt_Mo_letter 27 rfl) rfl)
    · refine J_mono (w_iload_n C (jd jdt_Mo_letter 20 rfl) rfl) ?_
      refine J_mono (w_i2l C (jd jdt_Mo_letter 21 rfl)) ?_
      refine J_mono (w_lconst_0 C (jd jdt_Mo_letter 22 rfl)) ?_
      refine J_mono (w_ldc2 C (jd jdt_Mo_letter 23 rfl) jw_1681) ?_
      refine J_bind (fun q6 hq6 => ?_)
      refine J_mono (jc_Mo_261 C (C_Mo_isIn l G F a3.toInt64 0 5 M hq6) rfl (Nat.le_trans (Nat.le_of_ble_eq_true rfl : 1 + 1 ≤ 2) hD) (jd jdt_Mo_letter 24 rfl)) ?_
      refine J_br (w_if_ne (y := 0) C (jd jdt_Mo_letter 25 rfl) rfl) (fun h7 => J_pos h7 ?_) (fun h7 => J_neg h7 ?_)
      · refine J_mono (w_iconst_m1 C (jd jdt_Mo_letter 26 rfl)) ?_
        exact J_some (fun hx => hR (-1) hx _ _ (jd jdt_Mo_letter 27 rfl) rfl)
      · refine J_mono (w_aload_n C (jd jdt_Mo_letter 28 rfl) rfl) ?_
        refine J_mono (jg_Mo_72 C hp0 (jd jdt_Mo_letter 29 rfl)) ?_
        refine J_mono (w_bipush_24 C (jd jdt_Mo_letter 30 rfl)) ?_
        refine J_mono (w_bipush_8 C (jd jdt_Mo_letter 31 rfl)) ?_
        refine J_mono (w_iload_n C (jd jdt_Mo_letter 32 rfl) rfl) ?_
        refine J_mono (w_imul C (jd jdt_Mo_letter 33 rfl)) ?_
        refine J_mono (w_iadd C (jd jdt_Mo_letter 34 rfl)) ?_
        refine J_mono (w_iload_n C (jd jdt_Mo_letter 35 rfl) rfl) ?_
        refine J_mono (w_iadd C (jd jdt_Mo_letter 36 rfl)) ?_
        refine J_bind (fun v8 hv8 => ?_)
        refine J_mono (w_lald C (jkf_12_29 hp0) hv8 (jd jdt_Mo_letter 37 rfl)) ?_
        refine J_mono (w_lstore (ls' := [some (.ref a0), some (.int a1), some (.int a2), some (.int a3), some (.long v8), none, none, none, none]) C (jd jdt_Mo_letter 38 rfl) (by decide) rfl rfl) ?_
        refine J_mono (w_iconst_0 C (jd jdt_Mo_letter 39 rfl)) ?_
        refine J_mono (w_istore (ls' := [some (.ref a0), some (.int a1), some (.int a2), some (.int a3), some (.long v8), none, some (.int 0), none, none]) C (jd jdt_Mo_letter 40 rfl) (by decide) rfl rfl) ?_
        refine J_mono (w_lload C (jd jdt_Mo_letter 41 rfl) rfl) ?_
        refine J_mono (w_lstore (ls' := [some (.ref a0), some (.int a1), some (.int a2), some (.int a3), some (.long v8), none, some (.int 0), some (.long v8), none]) C (jd jdt_Mo_letter 42 rfl) (by decide) rfl rfl) ?_
        have L69 : ∀ (y3 : Int32) (y4 : Int64) (n : Nat) (x6 : Int32) (x7 : Int64), J (fun (q10 : Int32) => Wk p l e R s m args below meth c G 9 Q 0 0 jN0 (jce G M) 90 [none, none, none, some (.int y3), some (.long y4), none, some (.int q10), none, none] []) (lp_Mo_letter_69 n x6 x7) (Wk p l e R s m args below meth c G 9 Q 0 0 jN0 (jce G M) 69 [none, none, none, some (.int y3), some (.long y4), none, some (.int x6), some (.long x7), none] []) := by
          intro y3 y4 n
          induction n with
          | zero => intro x6 x7; exact J_none
          | succ n ih =>
            intro x6 x7
            unfold lp_Mo_letter_69
            refine J_mono (w_lload C (jd jdt_Mo_letter 43 rfl) rfl) ?_
            refine J_mono (w_lconst_0 C (jd jdt_Mo_letter 44 rfl)) ?_
            refine J_br (w_lcmp_le C (jd jdt_Mo_letter 45 rfl) (jd jdt_Mo_letter 46 rfl) rfl) (fun h9 => J_pos h9 ?_) (fun h9 => J_neg h9 ?_)
            · refine J_mono (w_iinc (v := x6 + 1) (ls' := [none, none, none, some (.int y3), some (.long y4), none, some (.int (x6 + 1)), some (.long x7), none]) C (jd jdt_Mo_letter 47 rfl) rfl rfl (by decide) rfl rfl) ?_
              refine J_mono (w_lload C (jd jdt_Mo_letter 48 rfl) rfl) ?_
              refine J_mono (w_ldc2 C (jd jdt_Mo_letter 49 rfl) jw_1559) ?_
              refine J_mono (w_ldiv C (jd jdt_Mo_letter 50 rfl) (by decide)) ?_
              refine J_mono (w_lstore (ls' := [none, none, none, some (.int y3), some (.long y4), none, some (.int (x6 + 1)), some (.long (x7 / 27)), none]) C (jd jdt_Mo_letter 51 rfl) (by decide) rfl rfl) ?_
              refine J_mono (w_goto C (jd jdt_Mo_letter 52 rfl) rfl) ?_
              exact J_sub (ih (x6 + 1) (x7 / 27)) ⟨rfl, rfl, rfl, rfl, trivial⟩
            · exact J_some (fun hx => Wk_sb hx ⟨rfl, rfl, rfl, trivial⟩)
        refine J_seq (fun (q10 : Int32) => Wk p l e R s m args below meth c G 9 Q 0 0 jN0 (jce G M) 90 [none, none, none, some (.int a3), some (.long v8), none, some (.int q10), none, none] []) (J_sub (L69 a3 v8 jfuel 0 v8) ⟨rfl, rfl, rfl, rfl, trivial⟩) (fun q10 hq10 => ?_)
        refine J_mono (w_iload_n C (jd jdt_Mo_letter 53 rfl) rfl) ?_
        refine J_mono (w_iload C (jd jdt_Mo_letter 54 rfl) rfl) ?_
        refine J_br (w_icmp_lt C (jd jdt_Mo_letter 55 rfl) rfl) (fun h11 => J_pos h11 ?_) (fun h11 => J_neg h11 ?_)
        · refine J_mono (w_iload C (jd jdt_Mo_letter 58 rfl) rfl) ?_
          refine J_mono (w_iconst_1 C (jd jdt_Mo_letter 59 rfl)) ?_
          refine J_mono (w_isub C (jd jdt_Mo_letter 60 rfl)) ?_
          refine J_mono (w_istore (ls' := [none, none, none, some (.int a3), some (.long v8), none, some (.int q10), some (.int (q10 - 1)), none]) C (jd jdt_Mo_letter 61 rfl) (by decide) rfl rfl) ?_
          have L104 : ∀ (y3 : Int32) (n : Nat) (x4 : Int64) (x7 : Int32), J (fun (q13 : Int64) => Wk p l e R s m args below meth c G 9 Q 0 0 jN0 (jce G M) 124 [none, none, none, none, some (.long q13), none, none, none, none] []) (lp_Mo_letter_104 y3 n x4 x7) (Wk p l e R s m args below meth c G 9 Q 0 0 jN0 (jce G M) 104 [none, none, none, some (.int y3), some (.long x4), none, none, some (.int x7), none] []) := by
            intro y3 n
            induction n with
            | zero => intro x4 x7; exact J_none
            | succ n ih =>
              intro x4 x7
              unfold lp_Mo_letter_104
              refine J_mono (w_iload C (jd jdt_Mo_letter 62 rfl) rfl) ?_
              refine J_mono (w_iload_n C (jd jdt_Mo_letter 63 rfl) rfl) ?_
              refine J_br (w_icmp_le C (jd jdt_Mo_letter 64 rfl) rfl) (fun h12 => J_pos h12 ?_) (fun h12 => J_neg h12 ?_)
              · refine J_mono (w_lload C (jd jdt_Mo_letter 65 rfl) rfl) ?_
                refine J_mono (w_ldc2 C (jd jdt_Mo_letter 66 rfl) jw_1559) ?_
                refine J_mono (w_ldiv C (jd jdt_Mo_letter 67 rfl) (by decide)) ?_
                refine J_mono (w_lstore (ls' := [none, none, none, some (.int y3), some (.long (x4 / 27)), none, none, some (.int x7), none]) C (jd jdt_Mo_letter 68 rfl) (by decide) rfl rfl) ?_
                refine J_mono (w_iinc (v := x7 + (-1)) (ls' := [none, none, none, some (.int y3), some (.long (x4 / 27)), none, none, some (.int (x7 + (-1))), none]) C (jd jdt_Mo_letter 69 rfl) rfl rfl (by decide) rfl rfl) ?_
                refine J_mono (w_goto C (jd jdt_Mo_letter 70 rfl) rfl) ?_
                exact J_sub (ih (x4 / 27) (x7 + (-1))) ⟨rfl, rfl, rfl, trivial⟩
              · exact J_some (fun hx => Wk_sb hx ⟨rfl, trivial⟩)
          refine J_seq (fun (q13 : Int64) => Wk p l e R s m args below meth c G 9 Q 0 0 jN0 (jce G M) 124 [none, none, none, none, some (.long q13), none, none, none, none] []) (J_sub (L104 a3 jfuel v8 (q10 - 1)) ⟨rfl, rfl, rfl, trivial⟩) (fun q13 hq13 => ?_)
          refine J_mono (w_lload C (jd jdt_Mo_letter 71 rfl) rfl) ?_
          refine J_mono (w_ldc2 C (jd jdt_Mo_letter 72 rfl) jw_1559) ?_
          refine J_mono (w_lrem C (jd jdt_Mo_letter 73 rfl) (by decide)) ?_
          refine J_mono (w_l2i C (jd jdt_Mo_letter 74 rfl)) ?_
          exact J_some (fun hx => hR (Int64.toInt32 (q13 - q13 / 27 * 27)) hx _ _ (jd jdt_Mo_letter 75 rfl) rfl)
        · refine J_mono (w_iconst_0 C (jd jdt_Mo_letter 56 rfl)) ?_
          exact J_some (fun hx => hR 0 hx _ _ (jd jdt_Mo_letter 57 rfl) rfl)
end
theorem C_Mo_letter (l : Launch) (G : JG) (F : jF G = false) (a0 : Nat) (a1 : Int32) (a2 : Int32) (a3 : Int32) (hp0 : jkd a0 12) (M : SM) {q : Int32} (hf : f_Mo_letter a0 a1 a2 a3 M = some q) : jMet l jy_Mo_letter jb_Mo_letter 9 (some FieldType.int) 2 0 0 G [.ref a0, .int a1, .int a2, .int a3] jN0 (jce G M) (some (.int q)) jN0 (jce G M) :=
  j_met jo_Mo_letter (by decide) (Nat.le_of_ble_eq_true rfl) (fun p e s m args below meth c C hr hm => K_Mo_letter C F (Nat.le_refl _) a0 a1 a2 a3 hp0 M (fun t => t = q) (fun v hX pc ls hd hn => by cases hX; exact w_iret C hr hn hd) _ hf rfl)
def f_Mo_isDesk (a0 : Nat) (a1 : Int32) (M : SM) : Option Int32 := (f_Mo_deskMany a0 M).bind fun q1 => (f_Mo_isIn a1.toInt64 0 (Int32.toInt64 (q1 - 1))).bind fun q2 => (bchk q2).bind fun b3 => some b3
section
variable {p : Program} {l : Launch} {e : Env} {R : Room} {s : State} {m : MethodId} {args : Array Value} {below : List Frame} {meth : Method} {c : Code} {G : JG} {D : Nat} {Q : State → Prop}
set_option maxHeartbeats 4000000 in
set_option maxRecDepth 20000 in
theorem K_Mo_isDesk (C : jCx p R s m args meth c G jb_Mo_isDesk 2 D "SluicePitModel") (F : jF G = false) (hD : 2 ≤ D) (a0 : Nat) (a1 : Int32) (hp0 : jkd a0 12) (M : SM) (X : Int32 → Prop) (hR : ∀ v, X v → ∀ (pc : Nat) (ls : List (Option Value)), decode jb_Mo_isDesk pc = .ok (.ireturn, 1) → narrow FieldType.boolean (.int v) = .int v → Wk p l e R s m args below meth c G 2 Q 0 0 jN0 (jce G M) pc ls [.int v]) : J X (f_Mo_isDesk a0 a1 M) (Wk p l e R s m args below meth c G 2 Q 0 0 jN0 (jce G M) 0 [some (.ref a0), some (.int a1)] []) := by
  unfold f_Mo_isDesk
  refine J_mono (w_iload_n C (jd jdt_Mo_isDesk 0 rfl) rfl) ?_
  refine J_mono (w_i2l C (jd jdt_Mo_isDesk 1 rfl)) ?_
  refine J_mono (w_lconst_0 C (jd jdt_Mo_isDesk 2 rfl)) ?_
  refine J_mono (w_aload_n C (jd jdt_Mo_isDesk 3 rfl) rfl) ?_
  refine J_bind (fun q1 hq1 => ?_)
  refine J_mono (jc_Mo_380 C hp0 (C_Mo_deskMany l G F a0 hp0 M hq1) rfl (Nat.le_trans (Nat.le_of_ble_eq_true rfl : 1 + 1 ≤ 2) hD) (jd jdt_Mo_isDesk 4 rfl)) ?_
  refine J_mono (w_iconst_1 C (jd jdt_Mo_isDesk 5 rfl)) ?_
  refine J_mono (w_isub C (jd jdt_Mo_isDesk 6 rfl)) ?_
  refine J_mono (w_i2l C (jd jdt_Mo_isDesk 7 rfl)) ?_
  refine J_bind (fun q2 hq2 => ?_)
  refine J_mono (jc_Mo_261 C (C_Mo_isIn l G F a1.toInt64 0 (Int32.toInt64 (q1 - 1)) M hq2) rfl (Nat.le_trans (Nat.le_of_ble_eq_true rfl : 1 + 1 ≤ 2) hD) (jd jdt_Mo_isDesk 8 rfl)) ?_
  refine J_bind (fun b3 hb3 => ?_)
  obtain rfl := bchk_e hb3
  exact J_some (fun hx => hR _ hx _ _ (jd jdt_Mo_isDesk 9 rfl) (bchk_n hb3))
end
theorem C_Mo_isDesk (l : Launch) (G : JG) (F : jF G = false) (a0 : Nat) (a1 : Int32) (hp0 : jkd a0 12) (M : SM) {q : Int32} (hf : f_Mo_isDesk a0 a1 M = some q) : jMet l jy_Mo_isDesk jb_Mo_isDesk 2 (some FieldType.boolean) 2 0 0 G [.ref a0, .int a1] jN0 (jce G M) (some (.int q)) jN0 (jce G M) :=
  j_met jo_Mo_isDesk (by decide) (Nat.le_of_ble_eq_true rfl) (fun p e s m args below meth c C hr hm => K_Mo_isDesk C F (Nat.le_refl _) a0 a1 hp0 M (fun t => t = q) (fun v hX pc ls hd hn => by cases hX; exact w_iret C hr hn hd) _ hf rfl)
def f_Mo_desk (a0 : Nat) (a1 : Int32) (a2 : Int32) (M : SM) : Option Int32 := (f_Mo_isDesk a0 a1 M).bind fun q1 => if q1 = 0 then (some (-1)) else ((f_Mo_isIn a2.toInt64 (-1) 60).bind fun q3 => if q3 = 0 then (some (-1)) else (if a2 = (-1) then ((f_Mo_barsOf a0 a1 M).bind fun q6 => some q6) else (if a2 = 0 then ((aI M (jpf a0 35) (8 + a1)).bind fun v8 => some v8) else ((f_Mo_plainly a0 a1 a2 M).bind fun q9 => some q9))))
section
variable {p : Program} {l : Launch} {e : Env} {R : Room} {s : State} {m : MethodId} {args : Array Value} {below : List Frame} {meth : Method} {c : Code} {G : JG} {D : Nat} {Q : State → Prop}
set_option maxHeartbeats 4000000 in
set_option maxRecDepth 20000 in
theorem K_Mo_desk (C : jCx p R s m args meth c G jb_Mo_desk 3 D "SluicePitModel") (F : jF G = false) (hD : 3 ≤ D) (a0 : Nat) (a1 : Int32) (a2 : Int32) (hp0 : jkd a0 12) (M : SM) (X : Int32 → Prop) (hR : ∀ v, X v → ∀ (pc : Nat) (ls : List (Option Value)), decode jb_Mo_desk pc = .ok (.ireturn, 1) → narrow FieldType.int (.int v) = .int v → Wk p l e R s m args below meth c G 3 Q 0 0 jN0 (jce G M) pc ls [.int v]) : J X (f_Mo_desk a0 a1 a2 M) (Wk p l e R s m args below meth c G 3 Q 0 0 jN0 (jce G M) 0 [some (.ref a0), some (.int a1), some (.int a2)] []) := by
  unfold f_Mo_desk
  refine J_mono (w_aload_n C (jd jdt_Mo_desk 0 rfl) rfl) ?_
  refine J_mono (w_iload_n C (jd jdt_Mo_desk 1 rfl) rfl) ?_
  refine J_bind (fun q1 hq1 => ?_)
  refine J_mono (jc_Mo_452 C hp0 (C_Mo_isDesk l G F a0 a1 hp0 M hq1) rfl (Nat.le_trans (Nat.le_of_ble_eq_true rfl : 2 + 1 ≤ 3) hD) (jd jdt_Mo_desk 2 rfl)) ?_
  refine J_br (w_if_eq (y := 0) C (jd jdt_Mo_desk 3 rfl) rfl) (fun h2 => J_pos h2 ?_) (fun h2 => J_neg h2 ?_)
  · refine J_mono (w_iconst_m1 C (jd jdt_Mo_desk 10 rfl)) ?_
    exact J_some (fun hx => hR (-1) hx _ _ (jd jdt_Mo_desk 11 rfl) rfl)
  · refine J_mono (w_iload_n C (jd jdt_Mo_desk 4 rfl) rfl) ?_
    refine J_mono (w_i2l C (jd jdt_Mo_desk 5 rfl)) ?_
    refine J_mono (w_ldc2 C (jd jdt_Mo_desk 6 rfl) jw_1690) ?_
    refine J_mono (w_ldc2 C (jd jdt_Mo_desk 7 rfl) jw_1691) ?_
    refine J_bind (fun q3 hq3 => ?_)
    refine J_mono (jc_Mo_261 C (C_Mo_isIn l G F a2.toInt64 (-1) 60 M hq3) rfl (Nat.le_trans (Nat.le_of_ble_eq_true rfl : 1 + 1 ≤ 3) hD) (jd jdt_Mo_desk 8 rfl)) ?_
    refine J_br (w_if_ne (y := 0) C (jd jdt_Mo_desk 9 rfl) rfl) (fun h4 => J_pos h4 ?_) (fun h4 => J_neg h4 ?_)
    · refine J_mono (w_iconst_m1 C (jd jdt_Mo_desk 10 rfl)) ?_
      exact J_some (fun hx => hR (-1) hx _ _ (jd jdt_Mo_desk 11 rfl) rfl)
    · refine J_mono (w_iload_n C (jd jdt_Mo_desk 12 rfl) rfl) ?_
      refine J_mono (w_iconst_m1 C (jd jdt_Mo_desk 13 rfl)) ?_
      refine J_br (w_icmp_ne C (jd jdt_Mo_desk 14 rfl) rfl) (fun h5 => J_pos h5 ?_) (fun h5 => J_neg h5 ?_)
      · refine J_mono (w_aload_n C (jd jdt_Mo_desk 15 rfl) rfl) ?_
        refine J_mono (w_iload_n C (jd jdt_Mo_desk 16 rfl) rfl) ?_
        refine J_bind (fun q6 hq6 => ?_)
        refine J_mono (jc_Mo_383 C hp0 (C_Mo_barsOf l G F a0 a1 hp0 M hq6) rfl (Nat.le_trans (Nat.le_of_ble_eq_true rfl : 1 + 1 ≤ 3) hD) (jd jdt_Mo_desk 17 rfl)) ?_
        refine J_mono (w_goto C (jd jdt_Mo_desk 18 rfl) rfl) ?_
        exact J_some (fun hx => hR q6 hx _ _ (jd jdt_Mo_desk 32 rfl) rfl)
      · refine J_mono (w_iload_n C (jd jdt_Mo_desk 19 rfl) rfl) ?_
        refine J_br (w_if_ne (y := 0) C (jd jdt_Mo_desk 20 rfl) rfl) (fun h7 => J_pos h7 ?_) (fun h7 => J_neg h7 ?_)
        · refine J_mono (w_aload_n C (jd jdt_Mo_desk 21 rfl) rfl) ?_
          refine J_mono (jg_Mo_85 C hp0 (jd jdt_Mo_desk 22 rfl)) ?_
          refine J_mono (w_bipush_8 C (jd jdt_Mo_desk 23 rfl)) ?_
          refine J_mono (w_iload_n C (jd jdt_Mo_desk 24 rfl) rfl) ?_
          refine J_mono (w_iadd C (jd jdt_Mo_desk 25 rfl)) ?_
          refine J_bind (fun v8 hv8 => ?_)
          refine J_mono (w_iald C (jkf_12_35 hp0) hv8 (jd jdt_Mo_desk 26 rfl)) ?_
          refine J_mono (w_goto C (jd jdt_Mo_desk 27 rfl) rfl) ?_
          exact J_some (fun hx => hR v8 hx _ _ (jd jdt_Mo_desk 32 rfl) rfl)
        · refine J_mono (w_aload_n C (jd jdt_Mo_desk 28 rfl) rfl) ?_
          refine J_mono (w_iload_n C (jd jdt_Mo_desk 29 rfl) rfl) ?_
          refine J_mono (w_iload_n C (jd jdt_Mo_desk 30 rfl) rfl) ?_
          refine J_bind (fun q9 hq9 => ?_)
          refine J_mono (jc_Mo_395 C hp0 (C_Mo_plainly l G F a0 a1 a2 hp0 M hq9) rfl (Nat.le_trans (Nat.le_of_ble_eq_true rfl : 2 + 1 ≤ 3) hD) (jd jdt_Mo_desk 31 rfl)) ?_
          exact J_some (fun hx => hR q9 hx _ _ (jd jdt_Mo_desk 32 rfl) rfl)
end
theorem C_Mo_desk (l : Launch) (G : JG) (F : jF G = false) (a0 : Nat) (a1 : Int32) (a2 : Int32) (hp0 : jkd a0 12) (M : SM) {q : Int32} (hf : f_Mo_desk a0 a1 a2 M = some q) : jMet l jy_Mo_desk jb_Mo_desk 3 (some FieldType.int) 3 0 0 G [.ref a0, .int a1, .int a2] jN0 (jce G M) (some (.int q)) jN0 (jce G M) :=
  j_met jo_Mo_desk (by decide) (Nat.le_of_ble_eq_true rfl) (fun p e s m args below meth c C hr hm => K_Mo_desk C F (Nat.le_refl _) a0 a1 a2 hp0 M (fun t => t = q) (fun v hX pc ls hd hn => by cases hX; exact w_iret C hr hn hd) _ hf rfl)
def f_Mo_isCell (a0 : Nat) (a1 : Int32) (M : SM) : Option Int32 := (f_Mo_isIn a1.toInt64 0 (Int32.toInt64 ((M.1 a0 31) - 1))).bind fun q1 => (bchk q1).bind fun b2 => some b2
section
variable {p : Program} {l : Launch} {e : Env} {R : Room} {s : State} {m : MethodId} {args : Array Value} {below : List Frame} {meth : Method} {c : Code} {G : JG} {D : Nat} {Q : State → Prop}
set_option maxHeartbeats 4000000 in
set_option maxRecDepth 20000 in
theorem K_Mo_isCell (C : jCx p R s m args meth c G jb_Mo_isCell 2 D "SluicePitModel") (F : jF G = false) (hD : 2 ≤ D) (a0 : Nat) (a1 : Int32) (hp0 : jkd a0 12) (M : SM) (X : Int32 → Prop) (hR : ∀ v, X v → ∀ (pc : Nat) (ls : List (Option Value)), decode jb_Mo_isCell pc = .ok (.ireturn, 1) → narrow FieldType.boolean (.int v) = .int v → Wk p l e R s m args below meth c G 2 Q 0 0 jN0 (jce G M) pc ls [.int v]) : J X (f_Mo_isCell a0 a1 M) (Wk p l e R s m args below meth c G 2 Q 0 0 jN0 (jce G M) 0 [some (.ref a0), some (.int a1)] []) := by
  unfold f_Mo_isCell
  refine J_mono (w_iload_n C (jd jdt_Mo_isCell 0 rfl) rfl) ?_
  refine J_mono (w_i2l C (jd jdt_Mo_isCell 1 rfl)) ?_
  refine J_mono (w_lconst_0 C (jd jdt_Mo_isCell 2 rfl)) ?_
  refine J_mono (w_aload_n C (jd jdt_Mo_isCell 3 rfl) rfl) ?_
  refine J_mono (jg_Mo_367 C hp0 (jd jdt_Mo_isCell 4 rfl)) ?_
  refine J_mono (w_iconst_1 C (jd jdt_Mo_isCell 5 rfl)) ?_
  refine J_mono (w_isub C (jd jdt_Mo_isCell 6 rfl)) ?_
  refine J_mono (w_i2l C (jd jdt_Mo_isCell 7 rfl)) ?_
  refine J_bind (fun q1 hq1 => ?_)
  refine J_mono (jc_Mo_261 C (C_Mo_isIn l G F a1.toInt64 0 (Int32.toInt64 ((M.1 a0 31) - 1)) M hq1) rfl (Nat.le_trans (Nat.le_of_ble_eq_true rfl : 1 + 1 ≤ 2) hD) (jd jdt_Mo_isCell 8 rfl)) ?_
  refine J_bind (fun b2 hb2 => ?_)
  obtain rfl := bchk_e hb2
  exact J_some (fun hx => hR _ hx _ _ (jd jdt_Mo_isCell 9 rfl) (bchk_n hb2))
end
theorem C_Mo_isCell (l : Launch) (G : JG) (F : jF G = false) (a0 : Nat) (a1 : Int32) (hp0 : jkd a0 12) (M : SM) {q : Int32} (hf : f_Mo_isCell a0 a1 M = some q) : jMet l jy_Mo_isCell jb_Mo_isCell 2 (some FieldType.boolean) 2 0 0 G [.ref a0, .int a1] jN0 (jce G M) (some (.int q)) jN0 (jce G M) :=
  j_met jo_Mo_isCell (by decide) (Nat.le_of_ble_eq_true rfl) (fun p e s m args below meth c C hr hm => K_Mo_isCell C F (Nat.le_refl _) a0 a1 hp0 M (fun t => t = q) (fun v hX pc ls hd hn => by cases hX; exact w_iret C hr hn hd) _ hf rfl)
def f_Mo_isBar (a0 : Int32) : Option Int32 := (f_Mo_isIn a0.toInt64 0 60).bind fun q1 => (bchk q1).bind fun b2 => some b2
section
variable {p : Program} {l : Launch} {e : Env} {R : Room} {s : State} {m : MethodId} {args : Array Value} {below : List Frame} {meth : Method} {c : Code} {G : JG} {D : Nat} {Q : State → Prop}
set_option maxHeartbeats 4000000 in
set_option maxRecDepth 20000 in
theorem K_Mo_isBar (C : jCx p R s m args meth c G jb_Mo_isBar 1 D "SluicePitModel") (F : jF G = false) (hD : 2 ≤ D) (a0 : Int32)  (M : SM) (X : Int32 → Prop) (hR : ∀ v, X v → ∀ (pc : Nat) (ls : List (Option Value)), decode jb_Mo_isBar pc = .ok (.ireturn, 1) → narrow FieldType.boolean (.int v) = .int v → Wk p l e R s m args below meth c G 1 Q 0 0 jN0 (jce G M) pc ls [.int v]) : J X (f_Mo_isBar a0) (Wk p l e R s m args below meth c G 1 Q 0 0 jN0 (jce G M) 0 [some (.int a0)] []) := by
  unfold f_Mo_isBar
  refine J_mono (w_iload_n C (jd jdt_Mo_isBar 0 rfl) rfl) ?_
  refine J_mono (w_i2l C (jd jdt_Mo_isBar 1 rfl)) ?_
  refine J_mono (w_lconst_0 C (jd jdt_Mo_isBar 2 rfl)) ?_
  refine J_mono (w_ldc2 C (jd jdt_Mo_isBar 3 rfl) jw_1691) ?_
  refine J_bind (fun q1 hq1 => ?_)
  refine J_mono (jc_Mo_261 C (C_Mo_isIn l G F a0.toInt64 0 60 M hq1) rfl (Nat.le_trans (Nat.le_of_ble_eq_true rfl : 1 + 1 ≤ 2) hD) (jd jdt_Mo_isBar 4 rfl)) ?_
  refine J_bind (fun b2 hb2 => ?_)
  obtain rfl := bchk_e hb2
  exact J_some (fun hx => hR _ hx _ _ (jd jdt_Mo_isBar 5 rfl) (bchk_n hb2))
end
theorem C_Mo_isBar (l : Launch) (G : JG) (F : jF G = false) (a0 : Int32)  (M : SM) {q : Int32} (hf : f_Mo_isBar a0 = some q) : jMet l jy_Mo_isBar jb_Mo_isBar 1 (some FieldType.boolean) 2 0 0 G [.int a0] jN0 (jce G M) (some (.int q)) jN0 (jce G M) :=
  j_met jo_Mo_isBar (by decide) (Nat.le_of_ble_eq_true rfl) (fun p e s m args below meth c C hr hm => K_Mo_isBar C F (Nat.le_refl _) a0  M (fun t => t = q) (fun v hX pc ls hd hn => by cases hX; exact w_iret C hr hn hd) _ hf rfl)
def f_Mo_deep (a0 : Nat) (a1 : Int32) (a2 : Int32) (M : SM) : Option Int32 := (f_Mo_isCell a0 a1 M).bind fun q1 => if q1 = 0 then (some (-1)) else ((f_Mo_isBar a2).bind fun q3 => if q3 = 0 then (some (-1)) else ((aI M (jpf a0 59) ((12 * a2) + a1)).bind fun v5 => some v5))
section
variable {p : Program} {l : Launch} {e : Env} {R : Room} {s : State} {m : MethodId} {args : Array Value} {below : List Frame} {meth : Method} {c : Code} {G : JG} {D : Nat} {Q : State → Prop}
set_option maxHeartbeats 4000000 in
set_option maxRecDepth 20000 in
theorem K_Mo_deep (C : jCx p R s m args meth c G jb_Mo_deep 3 D "SluicePitModel") (F : jF G = false) (hD : 3 ≤ D) (a0 : Nat) (a1 : Int32) (a2 : Int32) (hp0 : jkd a0 12) (M : SM) (X : Int32 → Prop) (hR : ∀ v, X v → ∀ (pc : Nat) (ls : List (Option Value)), decode jb_Mo_deep pc = .ok (.ireturn, 1) → narrow FieldType.int (.int v) = .int v → Wk p l e R s m args below meth c G 3 Q 0 0 jN0 (jce G M) pc ls [.int v]) : J X (f_Mo_deep a0 a1 a2 M) (Wk p l e R s m args below meth c G 3 Q 0 0 jN0 (jce G M) 0 [some (.ref a0), some (.int a1), some (.int a2)] []) := by
  unfold f_Mo_deep
  refine J_mono (w_aload_n C (jd jdt_Mo_deep 0 rfl) rfl) ?_
  refine J_mono (w_iload_n C (jd jdt_Mo_deep 1 rfl) rfl) ?_
  refine J_bind (fun q1 hq1 => ?_)
  refine J_mono (jc_Mo_457 C hp0 (C_Mo_isCell l G F a0 a1 hp0 M hq1) rfl (Nat.le_trans (Nat.le_of_ble_eq_true rfl : 2 + 1 ≤ 3) hD) (jd jdt_Mo_deep 2 rfl)) ?_
  refine J_br (w_if_eq (y := 0) C (jd jdt_Mo_deep 3 rfl) rfl) (fun h2 => J_pos h2 ?_) (fun h2 => J_neg h2 ?_)
  · refine J_mono (w_iconst_m1 C (jd jdt_Mo_deep 16 rfl)) ?_
    exact J_some (fun hx => hR (-1) hx _ _ (jd jdt_Mo_deep 17 rfl) rfl)
  · refine J_mono (w_iload_n C (jd jdt_Mo_deep 4 rfl) rfl) ?_
    refine J_bind (fun q3 hq3 => ?_)
    refine J_mono (jc_Mo_460 C (C_Mo_isBar l G F a2 M hq3) rfl (Nat.le_trans (Nat.le_of_ble_eq_true rfl : 2 + 1 ≤ 3) hD) (jd jdt_Mo_deep 5 rfl)) ?_
    refine J_br (w_if_eq (y := 0) C (jd jdt_Mo_deep 6 rfl) rfl) (fun h4 => J_pos h4 ?_) (fun h4 => J_neg h4 ?_)
    · refine J_mono (w_iconst_m1 C (jd jdt_Mo_deep 16 rfl)) ?_
      exact J_some (fun hx => hR (-1) hx _ _ (jd jdt_Mo_deep 17 rfl) rfl)
    · refine J_mono (w_aload_n C (jd jdt_Mo_deep 7 rfl) rfl) ?_
      refine J_mono (jg_Mo_124 C hp0 (jd jdt_Mo_deep 8 rfl)) ?_
      refine J_mono (w_bipush_12 C (jd jdt_Mo_deep 9 rfl)) ?_
      refine J_mono (w_iload_n C (jd jdt_Mo_deep 10 rfl) rfl) ?_
      refine J_mono (w_imul C (jd jdt_Mo_deep 11 rfl)) ?_
      refine J_mono (w_iload_n C (jd jdt_Mo_deep 12 rfl) rfl) ?_
      refine J_mono (w_iadd C (jd jdt_Mo_deep 13 rfl)) ?_
      refine J_bind (fun v5 hv5 => ?_)
      refine J_mono (w_iald C (jkf_12_59 hp0) hv5 (jd jdt_Mo_deep 14 rfl)) ?_
      refine J_mono (w_goto C (jd jdt_Mo_deep 15 rfl) rfl) ?_
      exact J_some (fun hx => hR v5 hx _ _ (jd jdt_Mo_deep 17 rfl) rfl)
end
theorem C_Mo_deep (l : Launch) (G : JG) (F : jF G = false) (a0 : Nat) (a1 : Int32) (a2 : Int32) (hp0 : jkd a0 12) (M : SM) {q : Int32} (hf : f_Mo_deep a0 a1 a2 M = some q) : jMet l jy_Mo_deep jb_Mo_deep 3 (some FieldType.int) 3 0 0 G [.ref a0, .int a1, .int a2] jN0 (jce G M) (some (.int q)) jN0 (jce G M) :=
  j_met jo_Mo_deep (by decide) (Nat.le_of_ble_eq_true rfl) (fun p e s m args below meth c C hr hm => K_Mo_deep C F (Nat.le_refl _) a0 a1 a2 hp0 M (fun t => t = q) (fun v hX pc ls hd hn => by cases hX; exact w_iret C hr hn hd) _ hf rfl)
def f_Mo_cell (a0 : Nat) (a1 : Int32) (a2 : Int32) (M : SM) : Option Int32 := (f_Mo_isCell a0 a1 M).bind fun q1 => if q1 = 0 then (some (-1)) else (if a2 = 0 then ((aI M (jpf a0 32) (12 + a1)).bind fun v4 => some v4) else (if a2 = 1 then ((aI M (jpf a0 34) (12 + a1)).bind fun v6 => some v6) else (if a2 = 2 then ((aI M (jpf a0 33) (12 + a1)).bind fun v8 => some v8) else (some (-1)))))
section
variable {p : Program} {l : Launch} {e : Env} {R : Room} {s : State} {m : MethodId} {args : Array Value} {below : List Frame} {meth : Method} {c : Code} {G : JG} {D : Nat} {Q : State → Prop}
set_option maxHeartbeats 4000000 in
set_option maxRecDepth 20000 in
theorem K_Mo_cell (C : jCx p R s m args meth c G jb_Mo_cell 3 D "SluicePitModel") (F : jF G = false) (hD : 3 ≤ D) (a0 : Nat) (a1 : Int32) (a2 : Int32) (hp0 : jkd a0 12) (M : SM) (X : Int32 → Prop) (hR : ∀ v, X v → ∀ (pc : Nat) (ls : List (Option Value)), decode jb_Mo_cell pc = .ok (.ireturn, 1) → narrow FieldType.int (.int v) = .int v → Wk p l e R s m args below meth c G 3 Q 0 0 jN0 (jce G M) pc ls [.int v]) : J X (f_Mo_cell a0 a1 a2 M) (Wk p l e R s m args below meth c G 3 Q 0 0 jN0 (jce G M) 0 [some (.ref a0), some (.int a1), some (.int a2)] []) := by
  unfold f_Mo_cell
  refine J_mono (w_aload_n C (jd jdt_Mo_cell 0 rfl) rfl) ?_
  refine J_mono (w_iload_n C (jd jdt_Mo_cell 1 rfl) rfl) ?_
  refine J_bind (fun q1 hq1 => ?_)
  refine J_mono (jc_Mo_457 C hp0 (C_Mo_isCell l G F a0 a1 hp0 M hq1) rfl (Nat.le_trans (Nat.le_of_ble_eq_true rfl : 2 + 1 ≤ 3) hD) (jd jdt_Mo_cell 2 rfl)) ?_
  refine J_br (w_if_ne (y := 0) C (jd jdt_Mo_cell 3 rfl) rfl) (fun h2 => J_pos h2 ?_) (fun h2 => J_neg h2 ?_)
  · refine J_mono (w_iconst_m1 C (jd jdt_Mo_cell 4 rfl)) ?_
    exact J_some (fun hx => hR (-1) hx _ _ (jd jdt_Mo_cell 5 rfl) rfl)
  · refine J_mono (w_iload_n C (jd jdt_Mo_cell 6 rfl) rfl) ?_
    refine J_ite (fun h3 => ?_) (fun h3 => ?_)
    · refine J_mono (w_tsw C h3 (jd jdt_Mo_cell 7 rfl) (by decide) (by decide) rfl rfl) ?_
      refine J_mono (w_aload_n C (jd jdt_Mo_cell 8 rfl) rfl) ?_
      refine J_mono (jg_Mo_76 C hp0 (jd jdt_Mo_cell 9 rfl)) ?_
      refine J_mono (w_bipush_12 C (jd jdt_Mo_cell 10 rfl)) ?_
      refine J_mono (w_iload_n C (jd jdt_Mo_cell 11 rfl) rfl) ?_
      refine J_mono (w_iadd C (jd jdt_Mo_cell 12 rfl)) ?_
      refine J_bind (fun v4 hv4 => ?_)
      refine J_mono (w_iald C (jkf_12_32 hp0) hv4 (jd jdt_Mo_cell 13 rfl)) ?_
      exact J_some (fun hx => hR v4 hx _ _ (jd jdt_Mo_cell 14 rfl) rfl)
    · refine J_ite (fun h5 => ?_) (fun h5 => ?_)
      · refine J_mono (w_tsw C h5 (jd jdt_Mo_cell 7 rfl) (by decide) (by decide) rfl rfl) ?_
        refine J_mono (w_aload_n C (jd jdt_Mo_cell 15 rfl) rfl) ?_
        refine J_mono (jg_Mo_82 C hp0 (jd jdt_Mo_cell 16 rfl)) ?_
        refine J_mono (w_bipush_12 C (jd jdt_Mo_cell 17 rfl)) ?_
        refine J_mono (w_iload_n C (jd jdt_Mo_cell 18 rfl) rfl) ?_
        refine J_mono (w_iadd C (jd jdt_Mo_cell 19 rfl)) ?_
        refine J_bind (fun v6 hv6 => ?_)
        refine J_mono (w_iald C (jkf_12_34 hp0) hv6 (jd jdt_Mo_cell 20 rfl)) ?_
        exact J_some (fun hx => hR v6 hx _ _ (jd jdt_Mo_cell 21 rfl) rfl)
      · refine J_ite (fun h7 => ?_) (fun h7 => ?_)
        · refine J_mono (w_tsw C h7 (jd jdt_Mo_cell 7 rfl) (by decide) (by decide) rfl rfl) ?_
          refine J_mono (w_aload_n C (jd jdt_Mo_cell 22 rfl) rfl) ?_
          refine J_mono (jg_Mo_79 C hp0 (jd jdt_Mo_cell 23 rfl)) ?_
          refine J_mono (w_bipush_12 C (jd jdt_Mo_cell 24 rfl)) ?_
          refine J_mono (w_iload_n C (jd jdt_Mo_cell 25 rfl) rfl) ?_
          refine J_mono (w_iadd C (jd jdt_Mo_cell 26 rfl)) ?_
          refine J_bind (fun v8 hv8 => ?_)
          refine J_mono (w_iald C (jkf_12_33 hp0) hv8 (jd jdt_Mo_cell 27 rfl)) ?_
          exact J_some (fun hx => hR v8 hx _ _ (jd jdt_Mo_cell 28 rfl) rfl)
        · refine J_mono (w_tswd C (jd jdt_Mo_cell 7 rfl) (fun k9 kA kB => by have kC : k9 = 0 ∨ k9 = 1 ∨ k9 = 2 := (by omega); rcases kC with rfl|rfl|rfl <;> first | exact h3 | exact h5 | exact h7) (by decide) (by decide) rfl) ?_
          refine J_mono (w_iconst_m1 C (jd jdt_Mo_cell 29 rfl)) ?_
          exact J_some (fun hx => hR (-1) hx _ _ (jd jdt_Mo_cell 30 rfl) rfl)
end
theorem C_Mo_cell (l : Launch) (G : JG) (F : jF G = false) (a0 : Nat) (a1 : Int32) (a2 : Int32) (hp0 : jkd a0 12) (M : SM) {q : Int32} (hf : f_Mo_cell a0 a1 a2 M = some q) : jMet l jy_Mo_cell jb_Mo_cell 3 (some FieldType.int) 3 0 0 G [.ref a0, .int a1, .int a2] jN0 (jce G M) (some (.int q)) jN0 (jce G M) :=
  j_met jo_Mo_cell (by decide) (Nat.le_of_ble_eq_true rfl) (fun p e s m args below meth c C hr hm => K_Mo_cell C F (Nat.le_refl _) a0 a1 a2 hp0 M (fun t => t = q) (fun v hX pc ls hd hn => by cases hX; exact w_iret C hr hn hd) _ hf rfl)
def f_Mo_sums (a0 : Nat) (a1 : Int32) (a2 : Int32) (M : SM) : Option Int32 := if 0 < (M.1 a0 31) then ((f_Mo_isBar a1).bind fun q2 => if q2 = 0 then (some (-1)) else ((f_Mo_isIn a2.toInt64 0 5).bind fun q4 => if q4 = 0 then (some (-1)) else ((aI M (jpf a0 61) ((6 * a1) + a2)).bind fun v6 => some v6))) else (some (-1))
section
variable {p : Program} {l : Launch} {e : Env} {R : Room} {s : State} {m : MethodId} {args : Array Value} {below : List Frame} {meth : Method} {c : Code} {G : JG} {D : Nat} {Q : State → Prop}
set_option maxHeartbeats 4000000 in
set_option maxRecDepth 20000 in
theorem K_Mo_sums (C : jCx p R s m args meth c G jb_Mo_sums 3 D "SluicePitModel") (F : jF G = false) (hD : 3 ≤ D) (a0 : Nat) (a1 : Int32) (a2 : Int32) (hp0 : jkd a0 12) (M : SM) (X : Int32 → Prop) (hR : ∀ v, X v → ∀ (pc : Nat) (ls : List (Option Value)), decode jb_Mo_sums pc = .ok (.ireturn, 1) → narrow FieldType.int (.int v) = .int v → Wk p l e R s m args below meth c G 3 Q 0 0 jN0 (jce G M) pc ls [.int v]) : J X (f_Mo_sums a0 a1 a2 M) (Wk p l e R s m args below meth c G 3 Q 0 0 jN0 (jce G M) 0 [some (.ref a0), some (.int a1), some (.int a2)] []) := by
  unfold f_Mo_sums
  refine J_mono (w_aload_n C (jd jdt_Mo_sums 0 rfl) rfl) ?_
  refine J_mono (jg_Mo_367 C hp0 (jd jdt_Mo_sums 1 rfl)) ?_
  refine J_br (w_if_le (y := 0) C (jd jdt_Mo_sums 2 rfl) rfl) (fun h1 => J_pos h1 ?_) (fun h1 => J_neg h1 ?_)
  · refine J_mono (w_iload_n C (jd jdt_Mo_sums 3 rfl) rfl) ?_
    refine J_bind (fun q2 hq2 => ?_)
    refine J_mono (jc_Mo_460 C (C_Mo_isBar l G F a1 M hq2) rfl (Nat.le_trans (Nat.le_of_ble_eq_true rfl : 2 + 1 ≤ 3) hD) (jd jdt_Mo_sums 4 rfl)) ?_
    refine J_br (w_if_eq (y := 0) C (jd jdt_Mo_sums 5 rfl) rfl) (fun h3 => J_pos h3 ?_) (fun h3 => J_neg h3 ?_)
    · refine J_mono (w_iconst_m1 C (jd jdt_Mo_sums 21 rfl)) ?_
      exact J_some (fun hx => hR (-1) hx _ _ (jd jdt_Mo_sums 22 rfl) rfl)
    · refine J_mono (w_iload_n C (jd jdt_Mo_sums 6 rfl) rfl) ?_
      refine J_mono (w_i2l C (jd jdt_Mo_sums 7 rfl)) ?_
      refine J_mono (w_lconst_0 C (jd jdt_Mo_sums 8 rfl)) ?_
      refine J_mono (w_ldc2 C (jd jdt_Mo_sums 9 rfl) jw_1681) ?_
      refine J_bind (fun q4 hq4 => ?_)
      refine J_mono (jc_Mo_261 C (C_Mo_isIn l G F a2.toInt64 0 5 M hq4) rfl (Nat.le_trans (Nat.le_of_ble_eq_true rfl : 1 + 1 ≤ 3) hD) (jd jdt_Mo_sums 10 rfl)) ?_
      refine J_br (w_if_eq (y := 0) C (jd jdt_Mo_sums 11 rfl) rfl) (fun h5 => J_pos h5 ?_) (fun h5 => J_neg h5 ?_)
      · refine J_mono (w_iconst_m1 C (jd jdt_Mo_sums 21 rfl)) ?_
        exact J_some (fun hx => hR (-1) hx _ _ (jd jdt_Mo_sums 22 rfl) rfl)
      · refine J_mono (w_aload_n C (jd jdt_Mo_sums 12 rfl) rfl) ?_
        refine J_mono (jg_Mo_130 C hp0 (jd jdt_Mo_sums 13 rfl)) ?_
        refine J_mono (w_bipush_6 C (jd jdt_Mo_sums 14 rfl)) ?_
        refine J_mono (w_iload_n C (jd jdt_Mo_sums 15 rfl) rfl) ?_
        refine J_mono (w_imul C (jd jdt_Mo_sums 16 rfl)) ?_
        refine J_mono (w_iload_n C (jd jdt_Mo_sums 17 rfl) rfl) ?_
        refine J_mono (w_iadd C (jd jdt_Mo_sums 18 rfl)) ?_
        refine J_bind (fun v6 hv6 => ?_)
        refine J_mono (w_iald C (jkf_12_61 hp0) hv6 (jd jdt_Mo_sums 19 rfl)) ?_
        refine J_mono (w_goto C (jd jdt_Mo_sums 20 rfl) rfl) ?_
        exact J_some (fun hx => hR v6 hx _ _ (jd jdt_Mo_sums 22 rfl) rfl)
  · refine J_mono (w_iconst_m1 C (jd jdt_Mo_sums 21 rfl)) ?_
    exact J_some (fun hx => hR (-1) hx _ _ (jd jdt_Mo_sums 22 rfl) rfl)
end
theorem C_Mo_sums (l : Launch) (G : JG) (F : jF G = false) (a0 : Nat) (a1 : Int32) (a2 : Int32) (hp0 : jkd a0 12) (M : SM) {q : Int32} (hf : f_Mo_sums a0 a1 a2 M = some q) : jMet l jy_Mo_sums jb_Mo_sums 3 (some FieldType.int) 3 0 0 G [.ref a0, .int a1, .int a2] jN0 (jce G M) (some (.int q)) jN0 (jce G M) :=
  j_met jo_Mo_sums (by decide) (Nat.le_of_ble_eq_true rfl) (fun p e s m args below meth c C hr hm => K_Mo_sums C F (Nat.le_refl _) a0 a1 a2 hp0 M (fun t => t = q) (fun v hX pc ls hd hn => by cases hX; exact w_iret C hr hn hd) _ hf rfl)
def lp_Mo_led_22 (y0 : Nat) (y1 : Int32) (y2 : Int32) (M : SM) : Nat → Int32 → Int32 → Option (Int32)
  | 0, _, _ => none
  | n + 1, x3, x4 => if y2 < x4 then (some x3) else ((f_Mo_plainly y0 y1 x4 M).bind fun q6 => (if q6 = 0 then ((aI M (jpf y0 35) (8 + y1)).bind fun v9 => some (x3 + v9)) else (some x3) : Option (Int32)).bind fun q7 => lp_Mo_led_22 y0 y1 y2 M n q7 (x4 + 1))
def f_Mo_led (a0 : Nat) (a1 : Int32) (a2 : Int32) (M : SM) : Option Int32 := (f_Mo_isDesk a0 a1 M).bind fun q1 => if q1 = 0 then (some (-1)) else ((f_Mo_isBar a2).bind fun q3 => if q3 = 0 then (some (-1)) else ((lp_Mo_led_22 a0 a1 a2 M jfuel 0 1).bind fun q10 => some q10))
section
variable {p : Program} {l : Launch} {e : Env} {R : Room} {s : State} {m : MethodId} {args : Array Value} {below : List Frame} {meth : Method} {c : Code} {G : JG} {D : Nat} {Q : State → Prop}
set_option maxHeartbeats 4000000 in
set_option maxRecDepth 20000 in
theorem K_Mo_led (C : jCx p R s m args meth c G jb_Mo_led 5 D "SluicePitModel") (F : jF G = false) (hD : 3 ≤ D) (a0 : Nat) (a1 : Int32) (a2 : Int32) (hp0 : jkd a0 12) (M : SM) (X : Int32 → Prop) (hR : ∀ v, X v → ∀ (pc : Nat) (ls : List (Option Value)), decode jb_Mo_led pc = .ok (.ireturn, 1) → narrow FieldType.int (.int v) = .int v → Wk p l e R s m args below meth c G 5 Q 0 0 jN0 (jce G M) pc ls [.int v]) : J X (f_Mo_led a0 a1 a2 M) (Wk p l e R s m args below meth c G 5 Q 0 0 jN0 (jce G M) 0 [some (.ref a0), some (.int a1), some (.int a2), none, none] []) := by
  unfold f_Mo_led
  refine J_mono (w_aload_n C (jd jdt_Mo_led 0 rfl) rfl) ?_
  refine J_mono (w_iload_n C (jd jdt_Mo_led 1 rfl) rfl) ?_
  refine J_bind (fun q1 hq1 => ?_)
  refine J_mono (jc_Mo_452 C hp0 (C_Mo_isDesk l G F a0 a1 hp0 M hq1) rfl (Nat.le_trans (Nat.le_of_ble_eq_true rfl : 2 + 1 ≤ 3) hD) (jd jdt_Mo_led 2 rfl)) ?_
  refine J_br (w_if_eq (y := 0) C (jd jdt_Mo_led 3 rfl) rfl) (fun h2 => J_pos h2 ?_) (fun h2 => J_neg h2 ?_)
  · refine J_mono (w_iconst_m1 C (jd jdt_Mo_led 7 rfl)) ?_
    exact J_some (fun hx => hR (-1) hx _ _ (jd jdt_Mo_led 8 rfl) rfl)
  · refine J_mono (w_iload_n C (jd jdt_Mo_led 4 rfl) rfl) ?_
    refine J_bind (fun q3 hq3 => ?_)
    refine J_mono (jc_Mo_460 C (C_Mo_isBar l G F a2 M hq3) rfl (Nat.le_trans (Nat.le_of_ble_eq_true rfl : 2 + 1 ≤ 3) hD) (jd jdt_Mo_led 5 rfl)) ?_
    refine J_br (w_if_ne (y := 0) C (jd jdt_Mo_led 6 rfl) rfl) (fun h4 => J_pos h4 ?_) (fun h4 => J_neg h4 ?_)
    · refine J_mono (w_iconst_m1 C (jd jdt_Mo_led 7 rfl)) ?_
      exact J_some (fun hx => hR (-1) hx _ _ (jd jdt_Mo_led 8 rfl) rfl)
    · refine J_mono (w_iconst_0 C (jd jdt_Mo_led 9 rfl)) ?_
      refine J_mono (w_istore_n (ls' := [some (.ref a0), some (.int a1), some (.int a2), some (.int 0), none]) C (jd jdt_Mo_led 10 rfl) (by decide) rfl rfl) ?_
      refine J_mono (w_iconst_1 C (jd jdt_Mo_led 11 rfl)) ?_
      refine J_mono (w_istore (ls' := [some (.ref a0), some (.int a1), some (.int a2), some (.int 0), some (.int 1)]) C (jd jdt_Mo_led 12 rfl) (by decide) rfl rfl) ?_
      have L22 : ∀ (y0 : Nat) (y1 : Int32) (y2 : Int32) (hy0 : jkd y0 12) (n : Nat) (x3 : Int32) (x4 : Int32), J (fun (q10 : Int32) => Wk p l e R s m args below meth c G 5 Q 0 0 jN0 (jce G M) 56 [none, none, none, some (.int q10), none] []) (lp_Mo_led_22 y0 y1 y2 M n x3 x4) (Wk p l e R s m args below meth c G 5 Q 0 0 jN0 (jce G M) 22 [some (.ref y0), some (.int y1), some (.int y2), some (.int x3), some (.int x4)] []) := by
        intro y0 y1 y2 hy0 n
        induction n with
        | zero => intro x3 x4; exact J_none
        | succ n ih =>
          intro x3 x4
          unfold lp_Mo_led_22
          refine J_mono (w_iload C (jd jdt_Mo_led 13 rfl) rfl) ?_
          refine J_mono (w_iload_n C (jd jdt_Mo_led 14 rfl) rfl) ?_
          refine J_br (w_icmp_gt C (jd jdt_Mo_led 15 rfl) rfl) (fun h5 => J_pos h5 ?_) (fun h5 => J_neg h5 ?_)
          · exact J_some (fun hx => Wk_sb hx ⟨rfl, trivial⟩)
          · refine J_mono (w_aload_n C (jd jdt_Mo_led 16 rfl) rfl) ?_
            refine J_mono (w_iload_n C (jd jdt_Mo_led 17 rfl) rfl) ?_
            refine J_mono (w_iload C (jd jdt_Mo_led 18 rfl) rfl) ?_
            refine J_bind (fun q6 hq6 => ?_)
            refine J_mono (jc_Mo_395 C hy0 (C_Mo_plainly l G F y0 y1 x4 hy0 M hq6) rfl (Nat.le_trans (Nat.le_of_ble_eq_true rfl : 2 + 1 ≤ 3) hD) (jd jdt_Mo_led 19 rfl)) ?_
            refine J_seq (fun (q7 : Int32) => Wk p l e R s m args below meth c G 5 Q 0 0 jN0 (jce G M) 50 [some (.ref y0), some (.int y1), some (.int y2), some (.int q7), some (.int x4)] []) ?_ (fun q7 hq7 => ?_)
            · refine J_br (w_if_ne (y := 0) C (jd jdt_Mo_led 20 rfl) rfl) (fun h8 => J_pos h8 ?_) (fun h8 => J_neg h8 ?_)
              · refine J_mono (w_iload_n C (jd jdt_Mo_led 21 rfl) rfl) ?_
                refine J_mono (w_aload_n C (jd jdt_Mo_led 22 rfl) rfl) ?_
                refine J_mono (jg_Mo_85 C hy0 (jd jdt_Mo_led 23 rfl)) ?_
                refine J_mono (w_bipush_8 C (jd jdt_Mo_led 24 rfl)) ?_
                refine J_mono (w_iload_n C (jd jdt_Mo_led 25 rfl) rfl) ?_
                refine J_mono (w_iadd C (jd jdt_Mo_led 26 rfl)) ?_
                refine J_bind (fun v9 hv9 => ?_)
                refine J_mono (w_iald C (jkf_12_35 hy0) hv9 (jd jdt_Mo_led 27 rfl)) ?_
                refine J_mono (w_iadd C (jd jdt_Mo_led 28 rfl)) ?_
                refine J_mono (w_istore_n (ls' := [some (.ref y0), some (.int y1), some (.int y2), some (.int (x3 + v9)), some (.int x4)]) C (jd jdt_Mo_led 29 rfl) (by decide) rfl rfl) ?_
                exact J_some (fun hx => Wk_sb hx ⟨rfl, rfl, rfl, rfl, rfl, trivial⟩)
              · exact J_some (fun hx => Wk_sb hx ⟨rfl, rfl, rfl, rfl, rfl, trivial⟩)
            · refine J_mono (w_iinc (v := x4 + 1) (ls' := [some (.ref y0), some (.int y1), some (.int y2), some (.int q7), some (.int (x4 + 1))]) C (jd jdt_Mo_led 30 rfl) rfl rfl (by decide) rfl rfl) ?_
              refine J_mono (w_goto C (jd jdt_Mo_led 31 rfl) rfl) ?_
              exact J_sub (ih q7 (x4 + 1)) ⟨rfl, rfl, rfl, rfl, rfl, trivial⟩
      refine J_seq (fun (q10 : Int32) => Wk p l e R s m args below meth c G 5 Q 0 0 jN0 (jce G M) 56 [none, none, none, some (.int q10), none] []) (J_sub (L22 a0 a1 a2 hp0 jfuel 0 1) ⟨rfl, rfl, rfl, rfl, rfl, trivial⟩) (fun q10 hq10 => ?_)
      refine J_mono (w_iload_n C (jd jdt_Mo_led 32 rfl) rfl) ?_
      exact J_some (fun hx => hR q10 hx _ _ (jd jdt_Mo_led 33 rfl) rfl)
end
theorem C_Mo_led (l : Launch) (G : JG) (F : jF G = false) (a0 : Nat) (a1 : Int32) (a2 : Int32) (hp0 : jkd a0 12) (M : SM) {q : Int32} (hf : f_Mo_led a0 a1 a2 M = some q) : jMet l jy_Mo_led jb_Mo_led 5 (some FieldType.int) 3 0 0 G [.ref a0, .int a1, .int a2] jN0 (jce G M) (some (.int q)) jN0 (jce G M) :=
  j_met jo_Mo_led (by decide) (Nat.le_of_ble_eq_true rfl) (fun p e s m args below meth c C hr hm => K_Mo_led C F (Nat.le_refl _) a0 a1 a2 hp0 M (fun t => t = q) (fun v hX pc ls hd hn => by cases hX; exact w_iret C hr hn hd) _ hf rfl)
def f_Mo_isBoat (a0 : Nat) (a1 : Int32) (M : SM) : Option Int32 := (aI M (jpf a0 28) 6).bind fun v1 => (f_Mo_isIn a1.toInt64 0 (Int32.toInt64 (v1 - 1))).bind fun q2 => (bchk q2).bind fun b3 => some b3
section
variable {p : Program} {l : Launch} {e : Env} {R : Room} {s : State} {m : MethodId} {args : Array Value} {below : List Frame} {meth : Method} {c : Code} {G : JG} {D : Nat} {Q : State → Prop}
set_option maxHeartbeats 4000000 in
set_option maxRecDepth 20000 in
theorem K_Mo_isBoat (C : jCx p R s m args meth c G jb_Mo_isBoat 2 D "SluicePitModel") (F : jF G = false) (hD : 2 ≤ D) (a0 : Nat) (a1 : Int32) (hp0 : jkd a0 12) (M : SM) (X : Int32 → Prop) (hR : ∀ v, X v → ∀ (pc : Nat) (ls : List (Option Value)), decode jb_Mo_isBoat pc = .ok (.ireturn, 1) → narrow FieldType.boolean (.int v) = .int v → Wk p l e R s m args below meth c G 2 Q 0 0 jN0 (jce G M) pc ls [.int v]) : J X (f_Mo_isBoat a0 a1 M) (Wk p l e R s m args below meth c G 2 Q 0 0 jN0 (jce G M) 0 [some (.ref a0), some (.int a1)] []) := by
  unfold f_Mo_isBoat
  refine J_mono (w_iload_n C (jd jdt_Mo_isBoat 0 rfl) rfl) ?_
  refine J_mono (w_i2l C (jd jdt_Mo_isBoat 1 rfl)) ?_
  refine J_mono (w_lconst_0 C (jd jdt_Mo_isBoat 2 rfl)) ?_
  refine J_mono (w_aload_n C (jd jdt_Mo_isBoat 3 rfl) rfl) ?_
  refine J_mono (jg_Mo_69 C hp0 (jd jdt_Mo_isBoat 4 rfl)) ?_
  refine J_mono (w_bipush_6 C (jd jdt_Mo_isBoat 5 rfl)) ?_
  refine J_bind (fun v1 hv1 => ?_)
  refine J_mono (w_iald C (jkf_12_28 hp0) hv1 (jd jdt_Mo_isBoat 6 rfl)) ?_
  refine J_mono (w_iconst_1 C (jd jdt_Mo_isBoat 7 rfl)) ?_
  refine J_mono (w_isub C (jd jdt_Mo_isBoat 8 rfl)) ?_
  refine J_mono (w_i2l C (jd jdt_Mo_isBoat 9 rfl)) ?_
  refine J_bind (fun q2 hq2 => ?_)
  refine J_mono (jc_Mo_261 C (C_Mo_isIn l G F a1.toInt64 0 (Int32.toInt64 (v1 - 1)) M hq2) rfl (Nat.le_trans (Nat.le_of_ble_eq_true rfl : 1 + 1 ≤ 2) hD) (jd jdt_Mo_isBoat 10 rfl)) ?_
  refine J_bind (fun b3 hb3 => ?_)
  obtain rfl := bchk_e hb3
  exact J_some (fun hx => hR _ hx _ _ (jd jdt_Mo_isBoat 11 rfl) (bchk_n hb3))
end
theorem C_Mo_isBoat (l : Launch) (G : JG) (F : jF G = false) (a0 : Nat) (a1 : Int32) (hp0 : jkd a0 12) (M : SM) {q : Int32} (hf : f_Mo_isBoat a0 a1 M = some q) : jMet l jy_Mo_isBoat jb_Mo_isBoat 2 (some FieldType.boolean) 2 0 0 G [.ref a0, .int a1] jN0 (jce G M) (some (.int q)) jN0 (jce G M) :=
  j_met jo_Mo_isBoat (by decide) (Nat.le_of_ble_eq_true rfl) (fun p e s m args below meth c C hr hm => K_Mo_isBoat C F (Nat.le_refl _) a0 a1 hp0 M (fun t => t = q) (fun v hX pc ls hd hn => by cases hX; exact w_iret C hr hn hd) _ hf rfl)
def f_Mo_isAground (a0 : Nat) (a1 : Int32) (a2 : Int32) (M : SM) : Option Int32 := (aI M (jpf a0 60) ((4 * a2) + a1)).bind fun v1 => (aI M (jpf a0 59) ((12 * a2) + v1)).bind fun v2 => (f_Mo_draftOf a0 a1 M).bind fun q3 => if v2 < q3 then (some 1) else (some 0)
section
variable {p : Program} {l : Launch} {e : Env} {R : Room} {s : State} {m : MethodId} {args : Array Value} {below : List Frame} {meth : Method} {c : Code} {G : JG} {D : Nat} {Q : State → Prop}
set_option maxHeartbeats 4000000 in
set_option maxRecDepth 20000 in
theorem K_Mo_isAground (C : jCx p R s m args meth c G jb_Mo_isAground 3 D "SluicePitModel") (F : jF G = false) (hD : 2 ≤ D) (a0 : Nat) (a1 : Int32) (a2 : Int32) (hp0 : jkd a0 12) (M : SM) (X : Int32 → Prop) (hR : ∀ v, X v → ∀ (pc : Nat) (ls : List (Option Value)), decode jb_Mo_isAground pc = .ok (.ireturn, 1) → narrow FieldType.boolean (.int v) = .int v → Wk p l e R s m args below meth c G 3 Q 0 0 jN0 (jce G M) pc ls [.int v]) : J X (f_Mo_isAground a0 a1 a2 M) (Wk p l e R s m args below meth c G 3 Q 0 0 jN0 (jce G M) 0 [some (.ref a0), some (.int a1), some (.int a2)] []) := by
  unfold f_Mo_isAground
  refine J_mono (w_aload_n C (jd jdt_Mo_isAground 0 rfl) rfl) ?_
  refine J_mono (jg_Mo_124 C hp0 (jd jdt_Mo_isAground 1 rfl)) ?_
  refine J_mono (w_bipush_12 C (jd jdt_Mo_isAground 2 rfl)) ?_
  refine J_mono (w_iload_n C (jd jdt_Mo_isAground 3 rfl) rfl) ?_
  refine J_mono (w_imul C (jd jdt_Mo_isAground 4 rfl)) ?_
  refine J_mono (w_aload_n C (jd jdt_Mo_isAground 5 rfl) rfl) ?_
  refine J_mono (jg_Mo_127 C hp0 (jd jdt_Mo_isAground 6 rfl)) ?_
  refine J_mono (w_iconst_4 C (jd jdt_Mo_isAground 7 rfl)) ?_
  refine J_mono (w_iload_n C (jd jdt_Mo_isAground 8 rfl) rfl) ?_
  refine J_mono (w_imul C (jd jdt_Mo_isAground 9 rfl)) ?_
  refine J_mono (w_iload_n C (jd jdt_Mo_isAground 10 rfl) rfl) ?_
  refine J_mono (w_iadd C (jd jdt_Mo_isAground 11 rfl)) ?_
  refine J_bind (fun v1 hv1 => ?_)
  refine J_mono (w_iald C (jkf_12_60 hp0) hv1 (jd jdt_Mo_isAground 12 rfl)) ?_
  refine J_mono (w_iadd C (jd jdt_Mo_isAground 13 rfl)) ?_
  refine J_bind (fun v2 hv2 => ?_)
  refine J_mono (w_iald C (jkf_12_59 hp0) hv2 (jd jdt_Mo_isAground 14 rfl)) ?_
  refine J_mono (w_aload_n C (jd jdt_Mo_isAground 15 rfl) rfl) ?_
  refine J_mono (w_iload_n C (jd jdt_Mo_isAground 16 rfl) rfl) ?_
  refine J_bind (fun q3 hq3 => ?_)
  refine J_mono (jc_Mo_404 C hp0 (C_Mo_draftOf l G F a0 a1 hp0 M hq3) rfl (Nat.le_trans (Nat.le_of_ble_eq_true rfl : 1 + 1 ≤ 2) hD) (jd jdt_Mo_isAground 17 rfl)) ?_
  refine J_br (w_icmp_ge C (jd jdt_Mo_isAground 18 rfl) rfl) (fun h4 => J_pos h4 ?_) (fun h4 => J_neg h4 ?_)
  · refine J_mono (w_iconst_1 C (jd jdt_Mo_isAground 19 rfl)) ?_
    refine J_mono (w_goto C (jd jdt_Mo_isAground 20 rfl) rfl) ?_
    exact J_some (fun hx => hR 1 hx _ _ (jd jdt_Mo_isAground 22 rfl) rfl)
  · refine J_mono (w_iconst_0 C (jd jdt_Mo_isAground 21 rfl)) ?_
    exact J_some (fun hx => hR 0 hx _ _ (jd jdt_Mo_isAground 22 rfl) rfl)
end
theorem C_Mo_isAground (l : Launch) (G : JG) (F : jF G = false) (a0 : Nat) (a1 : Int32) (a2 : Int32) (hp0 : jkd a0 12) (M : SM) {q : Int32} (hf : f_Mo_isAground a0 a1 a2 M = some q) : jMet l jy_Mo_isAground jb_Mo_isAground 3 (some FieldType.boolean) 2 0 0 G [.ref a0, .int a1, .int a2] jN0 (jce G M) (some (.int q)) jN0 (jce G M) :=
  j_met jo_Mo_isAground (by decide) (Nat.le_of_ble_eq_true rfl) (fun p e s m args below meth c C hr hm => K_Mo_isAground C F (Nat.le_refl _) a0 a1 a2 hp0 M (fun t => t = q) (fun v hX pc ls hd hn => by cases hX; exact w_iret C hr hn hd) _ hf rfl)
def f_Mo_boat (a0 : Nat) (a1 : Int32) (a2 : Int32) (a3 : Int32) (M : SM) : Option Int32 := (f_Mo_isBoat a0 a1 M).bind fun q1 => if q1 = 0 then (some (-1)) else ((f_Mo_isBar a2).bind fun q3 => if q3 = 0 then (some (-1)) else (if a3 = 0 then ((aI M (jpf a0 60) ((4 * a2) + a1)).bind fun v6 => some v6) else ((f_Mo_isAground a0 a1 a2 M).bind fun q7 => if q7 = 0 then (some 0) else (some 1))))
section
variable {p : Program} {l : Launch} {e : Env} {R : Room} {s : State} {m : MethodId} {args : Array Value} {below : List Frame} {meth : Method} {c : Code} {G : JG} {D : Nat} {Q : State → Prop}
set_option maxHeartbeats 4000000 in
set_option maxRecDepth 20000 in
theorem K_Mo_boat (C : jCx p R s m args meth c G jb_Mo_boat 4 D "SluicePitModel") (F : jF G = false) (hD : 3 ≤ D) (a0 : Nat) (a1 : Int32) (a2 : Int32) (a3 : Int32) (hp0 : jkd a0 12) (M : SM) (X : Int32 → Prop) (hR : ∀ v, X v → ∀ (pc : Nat) (ls : List (Option Value)), decode jb_Mo_boat pc = .ok (.ireturn, 1) → narrow FieldType.int (.int v) = .int v → Wk p l e R s m args below meth c G 4 Q 0 0 jN0 (jce G M) pc ls [.int v]) : J X (f_Mo_boat a0 a1 a2 a3 M) (Wk p l e R s m args below meth c G 4 Q 0 0 jN0 (jce G M) 0 [some (.ref a0), some (.int a1), some (.int a2), some (.int a3)] []) := by
  unfold f_Mo_boat
  refine J_mono (w_aload_n C (jd jdt_Mo_boat 0 rfl) rfl) ?_
  refine J_mono (w_iload_n C (jd jdt_Mo_boat 1 rfl) rfl) ?_
  refine J_bind (fun q1 hq1 => ?_)
  refine J_mono (jc_Mo_463 C hp0 (C_Mo_isBoat l G F a0 a1 hp0 M hq1) rfl (Nat.le_trans (Nat.le_of_ble_eq_true rfl : 2 + 1 ≤ 3) hD) (jd jdt_Mo_boat 2 rfl)) ?_
  refine J_br (w_if_eq (y := 0) C (jd jdt_Mo_boat 3 rfl) rfl) (fun h2 => J_pos h2 ?_) (fun h2 => J_neg h2 ?_)
  · refine J_mono (w_iconst_m1 C (jd jdt_Mo_boat 7 rfl)) ?_
    exact J_some (fun hx => hR (-1) hx _ _ (jd jdt_Mo_boat 8 rfl) rfl)
  · refine J_mono (w_iload_n C (jd jdt_Mo_boat 4 rfl) rfl) ?_
    refine J_bind (fun q3 hq3 => ?_)
    refine J_mono (jc_Mo_460 C (C_Mo_isBar l G F a2 M hq3) rfl (Nat.le_trans (Nat.le_of_ble_eq_true rfl : 2 + 1 ≤ 3) hD) (jd jdt_Mo_boat 5 rfl)) ?_
    refine J_br (w_if_ne (y := 0) C (jd jdt_Mo_boat 6 rfl) rfl) (fun h4 => J_pos h4 ?_) (fun h4 => J_neg h4 ?_)
    · refine J_mono (w_iconst_m1 C (jd jdt_Mo_boat 7 rfl)) ?_
      exact J_some (fun hx => hR (-1) hx _ _ (jd jdt_Mo_boat 8 rfl) rfl)
    · refine J_mono (w_iload_n C (jd jdt_Mo_boat 9 rfl) rfl) ?_
      refine J_br (w_if_eq (y := 0) C (jd jdt_Mo_boat 10 rfl) rfl) (fun h5 => J_pos h5 ?_) (fun h5 => J_neg h5 ?_)
      · refine J_mono (w_aload_n C (jd jdt_Mo_boat 20 rfl) rfl) ?_
        refine J_mono (jg_Mo_127 C hp0 (jd jdt_Mo_boat 21 rfl)) ?_
        refine J_mono (w_iconst_4 C (jd jdt_Mo_boat 22 rfl)) ?_
        refine J_mono (w_iload_n C (jd jdt_Mo_boat 23 rfl) rfl) ?_
        refine J_mono (w_imul C (jd jdt_Mo_boat 24 rfl)) ?_
        refine J_mono (w_iload_n C (jd jdt_Mo_boat 25 rfl) rfl) ?_
        refine J_mono (w_iadd C (jd jdt_Mo_boat 26 rfl)) ?_
        refine J_bind (fun v6 hv6 => ?_)
        refine J_mono (w_iald C (jkf_12_60 hp0) hv6 (jd jdt_Mo_boat 27 rfl)) ?_
        exact J_some (fun hx => hR v6 hx _ _ (jd jdt_Mo_boat 28 rfl) rfl)
      · refine J_mono (w_aload_n C (jd jdt_Mo_boat 11 rfl) rfl) ?_
        refine J_mono (w_iload_n C (jd jdt_Mo_boat 12 rfl) rfl) ?_
        refine J_mono (w_iload_n C (jd jdt_Mo_boat 13 rfl) rfl) ?_
        refine J_bind (fun q7 hq7 => ?_)
        refine J_mono (jc_Mo_466 C hp0 (C_Mo_isAground l G F a0 a1 a2 hp0 M hq7) rfl (Nat.le_trans (Nat.le_of_ble_eq_true rfl : 2 + 1 ≤ 3) hD) (jd jdt_Mo_boat 14 rfl)) ?_
        refine J_br (w_if_eq (y := 0) C (jd jdt_Mo_boat 15 rfl) rfl) (fun h8 => J_pos h8 ?_) (fun h8 => J_neg h8 ?_)
        · refine J_mono (w_iconst_0 C (jd jdt_Mo_boat 18 rfl)) ?_
          refine J_mono (w_goto C (jd jdt_Mo_boat 19 rfl) rfl) ?_
          exact J_some (fun hx => hR 0 hx _ _ (jd jdt_Mo_boat 28 rfl) rfl)
        · refine J_mono (w_iconst_1 C (jd jdt_Mo_boat 16 rfl)) ?_
          refine J_mono (w_goto C (jd jdt_Mo_boat 17 rfl) rfl) ?_
          exact J_some (fun hx => hR 1 hx _ _ (jd jdt_Mo_boat 28 rfl) rfl)
end
theorem C_Mo_boat (l : Launch) (G : JG) (F : jF G = false) (a0 : Nat) (a1 : Int32) (a2 : Int32) (a3 : Int32) (hp0 : jkd a0 12) (M : SM) {q : Int32} (hf : f_Mo_boat a0 a1 a2 a3 M = some q) : jMet l jy_Mo_boat jb_Mo_boat 4 (some FieldType.int) 3 0 0 G [.ref a0, .int a1, .int a2, .int a3] jN0 (jce G M) (some (.int q)) jN0 (jce G M) :=
  j_met jo_Mo_boat (by decide) (Nat.le_of_ble_eq_true rfl) (fun p e s m args below meth c C hr hm => K_Mo_boat C F (Nat.le_refl _) a0 a1 a2 a3 hp0 M (fun t => t = q) (fun v hX pc ls hd hn => by cases hX; exact w_iret C hr hn hd) _ hf rfl)
def lp_Mo_first_35 (y0 : Nat) (y1 : Int32) (y2 : Int32) (M : SM) : Nat → Int32 → Option ((Unit) ⊕ Int32)
  | 0, _ => none
  | n + 1, x3 => if 60 < x3 then (some (.inl ())) else (if y2 = 0 then ((f_Mo_isAground y0 y1 x3 M).bind fun q9 => if q9 = 0 then (lp_Mo_first_35 y0 y1 y2 M n (x3 + 1)) else (some (.inr x3))) else ((aI M (jpf y0 60) ((4 * x3) + y1)).bind fun v11 => if v11 = ((M.1 y0 31) - 1) then (some (.inr x3)) else (lp_Mo_first_35 y0 y1 y2 M n (x3 + 1))))
def f_Mo_first (a0 : Nat) (a1 : Int32) (a2 : Int32) (M : SM) : Option Int32 := (f_Mo_isBoat a0 a1 M).bind fun q1 => if q1 = 0 then (some (-1)) else ((f_Mo_isIn a2.toInt64 0 2).bind fun q3 => if q3 = 0 then (some (-1)) else (if a2 = 2 then ((f_Mo_draftOf a0 a1 M).bind fun q6 => some q6) else (jsb (lp_Mo_first_35 a0 a1 a2 M jfuel 0) id fun q13 => some (-1))))
section
variable {p : Program} {l : Launch} {e : Env} {R : Room} {s : State} {m : MethodId} {args : Array Value} {below : List Frame} {meth : Method} {c : Code} {G : JG} {D : Nat} {Q : State → Prop}
set_option maxHeartbeats 4000000 in
set_option maxRecDepth 20000 in
theorem K_Mo_first (C : jCx p R s m args meth c G jb_Mo_first 4 D "SluicePitModel") (F : jF G = false) (hD : 3 ≤ D) (a0 : Nat) (a1 : Int32) (a2 : Int32) (hp0 : jkd a0 12) (M : SM) (X : Int32 → Prop) (hR : ∀ v, X v → ∀ (pc : Nat) (ls : List (Option Value)), decode jb_Mo_first pc = .ok (.ireturn, 1) → narrow FieldType.int (.int v) = .int v → Wk p l e R s m args below meth c G 4 Q 0 0 jN0 (jce G M) pc ls [.int v]) : J X (f_Mo_first a0 a1 a2 M) (Wk p l e R s m args below meth c G 4 Q 0 0 jN0 (jce G M) 0 [some (.ref a0), some (.int a1), some (.int a2), none] []) := by
  unfold f_Mo_first
  refine J_mono (w_aload_n C (jd jdt_Mo_first 0 rfl) rfl) ?_
  refine J_mono (w_iload_n C (jd jdt_Mo_first 1 rfl) rfl) ?_
  refine J_bind (fun q1 hq1 => ?_)
  refine J_mono (jc_Mo_463 C hp0 (C_Mo_isBoat l G F a0 a1 hp0 M hq1) rfl (Nat.le_trans (Nat.le_of_ble_eq_true rfl : 2 + 1 ≤ 3) hD) (jd jdt_Mo_first 2 rfl)) ?_
  refine J_br (w_if_eq (y := 0) C (jd jdt_Mo_first 3 rfl) rfl) (fun h2 => J_pos h2 ?_) (fun h2 => J_neg h2 ?_)
  · refine J_mono (w_iconst_m1 C (jd jdt_Mo_first 10 rfl)) ?_
    exact J_some (fun hx => hR (-1) hx _ _ (jd jdt_Mo_first 11 rfl) rfl)
  · refine J_mono (w_iload_n C (jd jdt_Mo_first 4 rfl) rfl) ?_
    refine J_mono (w_i2l C (jd jdt_Mo_first 5 rfl)) ?_
    refine J_mono (w_lconst_0 C (jd jdt_Mo_first 6 rfl)) ?_
    refine J_mono (w_ldc2 C (jd jdt_Mo_first 7 rfl) jw_1680) ?_
    refine J_bind (fun q3 hq3 => ?_)
    refine J_mono (jc_Mo_261 C (C_Mo_isIn l G F a2.toInt64 0 2 M hq3) rfl (Nat.le_trans (Nat.le_of_ble_eq_true rfl : 1 + 1 ≤ 3) hD) (jd jdt_Mo_first 8 rfl)) ?_
    refine J_br (w_if_ne (y := 0) C (jd jdt_Mo_first 9 rfl) rfl) (fun h4 => J_pos h4 ?_) (fun h4 => J_neg h4 ?_)
    · refine J_mono (w_iconst_m1 C (jd jdt_Mo_first 10 rfl)) ?_
      exact J_some (fun hx => hR (-1) hx _ _ (jd jdt_Mo_first 11 rfl) rfl)
    · refine J_mono (w_iload_n C (jd jdt_Mo_first 12 rfl) rfl) ?_
      refine J_mono (w_iconst_2 C (jd jdt_Mo_first 13 rfl)) ?_
      refine J_br (w_icmp_ne C (jd jdt_Mo_first 14 rfl) rfl) (fun h5 => J_pos h5 ?_) (fun h5 => J_neg h5 ?_)
      · refine J_mono (w_aload_n C (jd jdt_Mo_first 15 rfl) rfl) ?_
        refine J_mono (w_iload_n C (jd jdt_Mo_first 16 rfl) rfl) ?_
        refine J_bind (fun q6 hq6 => ?_)
        refine J_mono (jc_Mo_404 C hp0 (C_Mo_draftOf l G F a0 a1 hp0 M hq6) rfl (Nat.le_trans (Nat.le_of_ble_eq_true rfl : 1 + 1 ≤ 3) hD) (jd jdt_Mo_first 17 rfl)) ?_
        exact J_some (fun hx => hR q6 hx _ _ (jd jdt_Mo_first 18 rfl) rfl)
      · refine J_mono (w_iconst_0 C (jd jdt_Mo_first 19 rfl)) ?_
        refine J_mono (w_istore_n (ls' := [some (.ref a0), some (.int a1), some (.int a2), some (.int 0)]) C (jd jdt_Mo_first 20 rfl) (by decide) rfl rfl) ?_
        have L35 : ∀ (y0 : Nat) (y1 : Int32) (y2 : Int32) (hy0 : jkd y0 12) (n : Nat) (x3 : Int32), J (Sum.elim (fun (q13 : Unit) => Wk p l e R s m args below meth c G 4 Q 0 0 jN0 (jce G M) 84 [none, none, none, none] []) X) (lp_Mo_first_35 y0 y1 y2 M n x3) (Wk p l e R s m args below meth c G 4 Q 0 0 jN0 (jce G M) 35 [some (.ref y0), some (.int y1), some (.int y2), some (.int x3)] []) := by
          intro y0 y1 y2 hy0 n
          induction n with
          | zero => intro x3; exact J_none
          | succ n ih =>
            intro x3
            unfold lp_Mo_first_35
            refine J_mono (w_iload_n C (jd jdt_Mo_first 21 rfl) rfl) ?_
            refine J_mono (w_bipush_60 C (jd jdt_Mo_first 22 rfl)) ?_
            refine J_br (w_icmp_gt C (jd jdt_Mo_first 23 rfl) rfl) (fun h7 => J_pos h7 ?_) (fun h7 => J_neg h7 ?_)
            · exact J_some (fun hx => Wk_sb hx trivial)
            · refine J_mono (w_iload_n C (jd jdt_Mo_first 24 rfl) rfl) ?_
              refine J_br (w_if_ne (y := 0) C (jd jdt_Mo_first 25 rfl) rfl) (fun h8 => J_pos h8 ?_) (fun h8 => J_neg h8 ?_)
              · refine J_mono (w_aload_n C (jd jdt_Mo_first 26 rfl) rfl) ?_
                refine J_mono (w_iload_n C (jd jdt_Mo_first 27 rfl) rfl) ?_
                refine J_mono (w_iload_n C (jd jdt_Mo_first 28 rfl) rfl) ?_
                refine J_bind (fun q9 hq9 => ?_)
                refine J_mono (jc_Mo_466 C hy0 (C_Mo_isAground l G F y0 y1 x3 hy0 M hq9) rfl (Nat.le_trans (Nat.le_of_ble_eq_true rfl : 2 + 1 ≤ 3) hD) (jd jdt_Mo_first 29 rfl)) ?_
                refine J_br (w_if_eq (y := 0) C (jd jdt_Mo_first 30 rfl) rfl) (fun h10 => J_pos h10 ?_) (fun h10 => J_neg h10 ?_)
                · refine J_mono (w_iinc (v := x3 + 1) (ls' := [some (.ref y0), some (.int y1), some (.int y2), some (.int (x3 + 1))]) C (jd jdt_Mo_first 47 rfl) rfl rfl (by decide) rfl rfl) ?_
                  refine J_mono (w_goto C (jd jdt_Mo_first 48 rfl) rfl) ?_
                  exact J_sub (ih (x3 + 1)) ⟨rfl, rfl, rfl, rfl, trivial⟩
                · refine J_mono (w_goto C (jd jdt_Mo_first 31 rfl) rfl) ?_
                  refine J_mono (w_iload_n C (jd jdt_Mo_first 45 rfl) rfl) ?_
                  exact J_some (fun hx => hR x3 hx _ _ (jd jdt_Mo_first 46 rfl) rfl)
              · refine J_mono (w_aload_n C (jd jdt_Mo_first 32 rfl) rfl) ?_
                refine J_mono (jg_Mo_127 C hy0 (jd jdt_Mo_first 33 rfl)) ?_
                refine J_mono (w_iconst_4 C (jd jdt_Mo_first 34 rfl)) ?_
                refine J_mono (w_iload_n C (jd jdt_Mo_first 35 rfl) rfl) ?_
                refine J_mono (w_imul C (jd jdt_Mo_first 36 rfl)) ?_
                refine J_mono (w_iload_n C (jd jdt_Mo_first 37 rfl) rfl) ?_
                refine J_mono (w_iadd C (jd jdt_Mo_first 38 rfl)) ?_
                refine J_bind (fun v11 hv11 => ?_)
                refine J_mono (w_iald C (jkf_12_60 hy0) hv11 (jd jdt_Mo_first 39 rfl)) ?_
                refine J_mono (w_aload_n C (jd jdt_Mo_first 40 rfl) rfl) ?_
                refine J_mono (jg_Mo_367 C hy0 (jd jdt_Mo_first 41 rfl)) ?_
                refine J_mono (w_iconst_1 C (jd jdt_Mo_first 42 rfl)) ?_
                refine J_mono (w_isub C (jd jdt_Mo_first 43 rfl)) ?_
                refine J_br (w_icmp_ne C (jd jdt_Mo_first 44 rfl) rfl) (fun h12 => J_pos h12 ?_) (fun h12 => J_neg h12 ?_)
                · refine J_mono (w_iload_n C (jd jdt_Mo_first 45 rfl) rfl) ?_
                  exact J_some (fun hx => hR x3 hx _ _ (jd jdt_Mo_first 46 rfl) rfl)
                · refine J_mono (w_iinc (v := x3 + 1) (ls' := [some (.ref y0), some (.int y1), some (.int y2), some (.int (x3 + 1))]) C (jd jdt_Mo_first 47 rfl) rfl rfl (by decide) rfl rfl) ?_
                  refine J_mono (w_goto C (jd jdt_Mo_first 48 rfl) rfl) ?_
                  exact J_sub (ih (x3 + 1)) ⟨rfl, rfl, rfl, rfl, trivial⟩
        refine J_sb (fun (q13 : Unit) => Wk p l e R s m args below meth c G 4 Q 0 0 jN0 (jce G M) 84 [none, none, none, none] []) (J_sub (L35 a0 a1 a2 hp0 jfuel 0) ⟨rfl, rfl, rfl, rfl, trivial⟩) (fun q13 => ?_)
        refine J_mono (w_iconst_m1 C (jd jdt_Mo_first 49 rfl)) ?_
        exact J_some (fun hx => hR (-1) hx _ _ (jd jdt_Mo_first 50 rfl) rfl)
end
theorem C_Mo_first (l : Launch) (G : JG) (F : jF G = false) (a0 : Nat) (a1 : Int32) (a2 : Int32) (hp0 : jkd a0 12) (M : SM) {q : Int32} (hf : f_Mo_first a0 a1 a2 M = some q) : jMet l jy_Mo_first jb_Mo_first 4 (some FieldType.int) 3 0 0 G [.ref a0, .int a1, .int a2] jN0 (jce G M) (some (.int q)) jN0 (jce G M) :=
  j_met jo_Mo_first (by decide) (Nat.le_of_ble_eq_true rfl) (fun p e s m args below meth c C hr hm => K_Mo_first C F (Nat.le_refl _) a0 a1 a2 hp0 M (fun t => t = q) (fun v hX pc ls hd hn => by cases hX; exact w_iret C hr hn hd) _ hf rfl)
def lp_Mo_turning_32 (y0 : Nat) (y1 : Int32) (y2 : Int32) (M : SM) : Nat → Int32 → Int32 → Option (Int32)
  | 0, _, _ => none
  | n + 1, x3, x4 => if y2 < x4 then (some x3) else ((aI M (jpf y0 37) (8 + (2 * y1))).bind fun v7 => (aI M (jpf y0 59) ((12 * x4) + v7)).bind fun v8 => (aI M (jpf y0 37) ((8 + (2 * y1)) + 1)).bind fun v9 => (if v8 < v9 then (some x3) else (some (x3 + 1)) : Option (Int32)).bind fun q10 => lp_Mo_turning_32 y0 y1 y2 M n q10 (x4 + 1))
def f_Mo_turning (a0 : Nat) (a1 : Int32) (a2 : Int32) (M : SM) : Option Int32 := (aI M (jpf a0 28) 5).bind fun v1 => (f_Mo_isIn a1.toInt64 0 (Int32.toInt64 (v1 - 1))).bind fun q2 => if q2 = 0 then (some (-1)) else ((f_Mo_isBar a2).bind fun q4 => if q4 = 0 then (some (-1)) else ((lp_Mo_turning_32 a0 a1 a2 M jfuel 0 0).bind fun q12 => some q12))
section
variable {p : Program} {l : Launch} {e : Env} {R : Room} {s : State} {m : MethodId} {args : Array Value} {below : List Frame} {meth : Method} {c : Code} {G : JG} {D : Nat} {Q : State → Prop}
set_option maxHeartbeats 4000000 in
set_option maxRecDepth 20000 in
theorem K_Mo_turning (C : jCx p R s m args meth c G jb_Mo_turning 5 D "SluicePitModel") (F : jF G = false) (hD : 3 ≤ D) (a0 : Nat) (a1 : Int32) (a2 : Int32) (hp0 : jkd a0 12) (M : SM) (X : Int32 → Prop) (hR : ∀ v, X v → ∀ (pc : Nat) (ls : List (Option Value)), decode jb_Mo_turning pc = .ok (.ireturn, 1) → narrow FieldType.int (.int v) = .int v → Wk p l e R s m args below meth c G 5 Q 0 0 jN0 (jce G M) pc ls [.int v]) : J X (f_Mo_turning a0 a1 a2 M) (Wk p l e R s m args below meth c G 5 Q 0 0 jN0 (jce G M) 0 [some (.ref a0), some (.int a1), some (.int a2), none, none] []) := by
  unfold f_Mo_turning
  refine J_mono (w_iload_n C (jd jdt_Mo_turning 0 rfl) rfl) ?_
  refine J_mono (w_i2l C (jd jdt_Mo_turning 1 rfl)) ?_
  refine J_mono (w_lconst_0 C (jd jdt_Mo_turning 2 rfl)) ?_
  refine J_mono (w_aload_n C (jd jdt_Mo_turning 3 rfl) rfl) ?_
  refine J_mono (jg_Mo_69 C hp0 (jd jdt_Mo_turning 4 rfl)) ?_
  refine J_mono (w_iconst_5 C (jd jdt_Mo_turning 5 rfl)) ?_
  refine J_bind (fun v1 hv1 => ?_)
  refine J_mono (w_iald C (jkf_12_28 hp0) hv1 (jd jdt_Mo_turning 6 rfl)) ?_
  refine J_mono (w_iconst_1 C (jd jdt_Mo_turning 7 rfl)) ?_
  refine J_mono (w_isub C (jd jdt_Mo_turning 8 rfl)) ?_
  refine J_mono (w_i2l C (jd jdt_Mo_turning 9 rfl)) ?_
  refine J_bind (fun q2 hq2 => ?_)
  refine J_mono (jc_Mo_261 C (C_Mo_isIn l G F a1.toInt64 0 (Int32.toInt64 (v1 - 1)) M hq2) rfl (Nat.le_trans (Nat.le_of_ble_eq_true rfl : 1 + 1 ≤ 3) hD) (jd jdt_Mo_turning 10 rfl)) ?_
  refine J_br (w_if_eq (y := 0) C (jd jdt_Mo_turning 11 rfl) rfl) (fun h3 => J_pos h3 ?_) (fun h3 => J_neg h3 ?_)
  · refine J_mono (w_iconst_m1 C (jd jdt_Mo_turning 15 rfl)) ?_
    exact J_some (fun hx => hR (-1) hx _ _ (jd jdt_Mo_turning 16 rfl) rfl)
  · refine J_mono (w_iload_n C (jd jdt_Mo_turning 12 rfl) rfl) ?_
    refine J_bind (fun q4 hq4 => ?_)
    refine J_mono (jc_Mo_460 C (C_Mo_isBar l G F a2 M hq4) rfl (Nat.le_trans (Nat.le_of_ble_eq_true rfl : 2 + 1 ≤ 3) hD) (jd jdt_Mo_turning 13 rfl)) ?_
    refine J_br (w_if_ne (y := 0) C (jd jdt_Mo_turning 14 rfl) rfl) (fun h5 => J_pos h5 ?_) (fun h5 => J_neg h5 ?_)
    · refine J_mono (w_iconst_m1 C (jd jdt_Mo_turning 15 rfl)) ?_
      exact J_some (fun hx => hR (-1) hx _ _ (jd jdt_Mo_turning 16 rfl) rfl)
    · refine J_mono (w_iconst_0 C (jd jdt_Mo_turning 17 rfl)) ?_
      refine J_mono (w_istore_n (ls' := [some (.ref a0), some (.int a1), some (.int a2), some (.int 0), none]) C (jd jdt_Mo_turning 18 rfl) (by decide) rfl rfl) ?_
      refine J_mono (w_iconst_0 C (jd jdt_Mo_turning 19 rfl)) ?_
      refine J_mono (w_istore (ls' := [some (.ref a0), some (.int a1), some (.int a2), some (.int 0), some (.int 0)]) C (jd jdt_Mo_turning 20 rfl) (by decide) rfl rfl) ?_
      have L32 : ∀ (y0 : Nat) (y1 : Int32) (y2 : Int32) (hy0 : jkd y0 12) (n : Nat) (x3 : Int32) (x4 : Int32), J (fun (q12 : Int32) => Wk p l e R s m args below meth c G 5 Q 0 0 jN0 (jce G M) 85 [none, none, none, some (.int q12), none] []) (lp_Mo_turning_32 y0 y1 y2 M n x3 x4) (Wk p l e R s m args below meth c G 5 Q 0 0 jN0 (jce G M) 32 [some (.ref y0), some (.int y1), some (.int y2), some (.int x3), some (.int x4)] []) := by
        intro y0 y1 y2 hy0 n
        induction n with
        | zero => intro x3 x4; exact J_none
        | succ n ih =>
          intro x3 x4
          unfold lp_Mo_turning_32
          refine J_mono (w_iload C (jd jdt_Mo_turning 21 rfl) rfl) ?_
          refine J_mono (w_iload_n C (jd jdt_Mo_turning 22 rfl) rfl) ?_
          refine J_br (w_icmp_gt C (jd jdt_Mo_turning 23 rfl) rfl) (fun h6 => J_pos h6 ?_) (fun h6 => J_neg h6 ?_)
          · exact J_some (fun hx => Wk_sb hx ⟨rfl, trivial⟩)
          · refine J_mono (w_aload_n C (jd jdt_Mo_turning 24 rfl) rfl) ?_
            refine J_mono (jg_Mo_124 C hy0 (jd jdt_Mo_turning 25 rfl)) ?_
            refine J_mono (w_bipush_12 C (jd jdt_Mo_turning 26 rfl)) ?_
            refine J_mono (w_iload C (jd jdt_Mo_turning 27 rfl) rfl) ?_
            refine J_mono (w_imul C (jd jdt_Mo_turning 28 rfl)) ?_
            refine J_mono (w_aload_n C (jd jdt_Mo_turning 29 rfl) rfl) ?_
            refine J_mono (jg_Mo_91 C hy0 (jd jdt_Mo_turning 30 rfl)) ?_
            refine J_mono (w_bipush_8 C (jd jdt_Mo_turning 31 rfl)) ?_
            refine J_mono (w_iconst_2 C (jd jdt_Mo_turning 32 rfl)) ?_
            refine J_mono (w_iload_n C (jd jdt_Mo_turning 33 rfl) rfl) ?_
            refine J_mono (w_imul C (jd jdt_Mo_turning 34 rfl)) ?_
            refine J_mono (w_iadd C (jd jdt_Mo_turning 35 rfl)) ?_
            refine J_bind (fun v7 hv7 => ?_)
            refine J_mono (w_iald C (jkf_12_37 hy0) hv7 (jd jdt_Mo_turning 36 rfl)) ?_
            refine J_mono (w_iadd C (jd jdt_Mo_turning 37 rfl)) ?_
            refine J_bind (fun v8 hv8 => ?_)
            refine J_mono (w_iald C (jkf_12_59 hy0) hv8 (jd jdt_Mo_turning 38 rfl)) ?_
            refine J_mono (w_aload_n C (jd jdt_Mo_turning 39 rfl) rfl) ?_
            refine J_mono (jg_Mo_91 C hy0 (jd jdt_Mo_turning 40 rfl)) ?_
            refine J_mono (w_bipush_8 C (jd jdt_Mo_turning 41 rfl)) ?_
            refine J_mono (w_iconst_2 C (jd jdt_Mo_turning 42 rfl)) ?_
            refine J_mono (w_iload_n C (jd jdt_Mo_turning 43 rfl) rfl) ?_
            refine J_mono (w_imul C (jd jdt_Mo_turning 44 rfl)) ?_
            refine J_mono (w_iadd C (jd jdt_Mo_turning 45 rfl)) ?_
            refine J_mono (w_iconst_1 C (jd jdt_Mo_turning 46 rfl)) ?_
            refine J_mono (w_iadd C (jd jdt_Mo_turning 47 rfl)) ?_
            refine J_bind (fun v9 hv9 => ?_)
            refine J_mono (w_iald C (jkf_12_37 hy0) hv9 (jd jdt_Mo_turning 48 rfl)) ?_
            refine J_seq (fun (q10 : Int32) => Wk p l e R s m args below meth c G 5 Q 0 0 jN0 (jce G M) 79 [some (.ref y0), some (.int y1), some (.int y2), some (.int q10), some (.int x4)] []) ?_ (fun q10 hq10 => ?_)
            · refine J_br (w_icmp_lt C (jd jdt_Mo_turning 49 rfl) rfl) (fun h11 => J_pos h11 ?_) (fun h11 => J_neg h11 ?_)
              · exact J_some (fun hx => Wk_sb hx ⟨rfl, rfl, rfl, rfl, rfl, trivial⟩)
              · refine J_mono (w_iinc (v := x3 + 1) (ls' := [some (.ref y0), some (.int y1), some (.int y2), some (.int (x3 + 1)), some (.int x4)]) C (jd jdt_Mo_turning 50 rfl) rfl rfl (by decide) rfl rfl) ?_
                exact J_some (fun hx => Wk_sb hx ⟨rfl, rfl, rfl, rfl, rfl, trivial⟩)
            · refine J_mono (w_iinc (v := x4 + 1) (ls' := [some (.ref y0), some (.int y1), some (.int y2), some (.int q10), some (.int (x4 + 1))]) C (jd jdt_Mo_turning 51 rfl) rfl rfl (by decide) rfl rfl) ?_
              refine J_mono (w_goto C (jd jdt_Mo_turning 52 rfl) rfl) ?_
              exact J_sub (ih q10 (x4 + 1)) ⟨rfl, rfl, rfl, rfl, rfl, trivial⟩
      refine J_seq (fun (q12 : Int32) => Wk p l e R s m args below meth c G 5 Q 0 0 jN0 (jce G M) 85 [none, none, none, some (.int q12), none] []) (J_sub (L32 a0 a1 a2 hp0 jfuel 0 0) ⟨rfl, rfl, rfl, rfl, rfl, trivial⟩) (fun q12 hq12 => ?_)
      refine J_mono (w_iload_n C (jd jdt_Mo_turning 53 rfl) rfl) ?_
      exact J_some (fun hx => hR q12 hx _ _ (jd jdt_Mo_turning 54 rfl) rfl)
end
theorem C_Mo_turning (l : Launch) (G : JG) (F : jF G = false) (a0 : Nat) (a1 : Int32) (a2 : Int32) (hp0 : jkd a0 12) (M : SM) {q : Int32} (hf : f_Mo_turning a0 a1 a2 M = some q) : jMet l jy_Mo_turning jb_Mo_turning 5 (some FieldType.int) 3 0 0 G [.ref a0, .int a1, .int a2] jN0 (jce G M) (some (.int q)) jN0 (jce G M) :=
  j_met jo_Mo_turning (by decide) (Nat.le_of_ble_eq_true rfl) (fun p e s m args below meth c C hr hm => K_Mo_turning C F (Nat.le_refl _) a0 a1 a2 hp0 M (fun t => t = q) (fun v hX pc ls hd hn => by cases hX; exact w_iret C hr hn hd) _ hf rfl)
def lp_Mo_undo_11 (y0 : Nat) : Nat → Int32 → SM → Option (SM)
  | 0, _, _ => none
  | n + 1, x1, M => if x1 < 488 then ((aI M (jpf y0 62) ((488 * (M.1 y0 64)) + x1)).bind fun v3 => (aS M (jpf y0 36) (488 + x1) v3).bind fun M4 => lp_Mo_undo_11 y0 n (x1 + 1) M4) else (some M)
def f_Mo_undo (a0 : Nat) (M : SM) : Option (Int32 × SM) := if (M.1 a0 63) = 0 then (some (0, M)) else ((lp_Mo_undo_11 a0 jfuel 0 M).bind fun q5 => (f_Mo_plays a0 (sI (sI q5 a0 64 ((((q5.1 a0 64) + 20) - 1) - (((q5.1 a0 64) + 20) - 1) / 20 * 20)) a0 63 (((sI q5 a0 64 ((((q5.1 a0 64) + 20) - 1) - (((q5.1 a0 64) + 20) - 1) / 20 * 20)).1 a0 63) - 1))).bind fun q6 => some (1, q6))
section
variable {p : Program} {l : Launch} {e : Env} {R : Room} {s : State} {m : MethodId} {args : Array Value} {below : List Frame} {meth : Method} {c : Code} {G : JG} {D : Nat} {Q : State → Prop}
set_option maxHeartbeats 4000000 in
set_option maxRecDepth 20000 in
theorem K_Mo_undo (C : jCx p R s m args meth c G jb_Mo_undo 2 D "SluicePitModel") (F : jF G = false) (hD : 6 ≤ D) (a0 : Nat) (hp0 : jkd a0 12) (M : SM) (X : (Int32 × SM) → Prop) (hR : ∀ v M', X (v, M') → ∀ (pc : Nat) (ls : List (Option Value)), decode jb_Mo_undo pc = .ok (.ireturn, 1) → narrow FieldType.boolean (.int v) = .int v → Wk p l e R s m args below meth c G 2 Q 0 0 jN0 (jce G M') pc ls [.int v]) : J X (f_Mo_undo a0 M) (Wk p l e R s m args below meth c G 2 Q 0 0 jN0 (jce G M) 0 [some (.ref a0), none] []) := by
  unfold f_Mo_undo
  refine J_mono (w_aload_n C (jd jdt_Mo_undo 0 rfl) rfl) ?_
  refine J_mono (jg_Mo_370 C hp0 (jd jdt_Mo_undo 1 rfl)) ?_
  refine J_br (w_if_ne (y := 0) C (jd jdt_Mo_undo 2 rfl) rfl) (fun h1 => J_pos h1 ?_) (fun h1 => J_neg h1 ?_)
  · refine J_mono (w_iconst_0 C (jd jdt_Mo_undo 3 rfl)) ?_
    exact J_some (fun hx => hR 0 M hx _ _ (jd jdt_Mo_undo 4 rfl) rfl)
  · refine J_mono (w_iconst_0 C (jd jdt_Mo_undo 5 rfl)) ?_
    refine J_mono (w_istore_n (ls' := [some (.ref a0), some (.int 0)]) C (jd jdt_Mo_undo 6 rfl) (by decide) rfl rfl) ?_
    have L11 : ∀ (y0 : Nat) (hy0 : jkd y0 12) (n : Nat) (x1 : Int32) (M : SM), J (fun (q5 : SM) => Wk p l e R s m args below meth c G 2 Q 0 0 jN0 (jce G q5) 49 [some (.ref y0), none] []) (lp_Mo_undo_11 y0 n x1 M) (Wk p l e R s m args below meth c G 2 Q 0 0 jN0 (jce G M) 11 [some (.ref y0), some (.int x1)] []) := by
      intro y0 hy0 n
      induction n with
      | zero => intro x1 M; exact J_none
      | succ n ih =>
        intro x1 M
        unfold lp_Mo_undo_11
        refine J_mono (w_iload_n C (jd jdt_Mo_undo 7 rfl) rfl) ?_
        refine J_mono (w_sipush_488 C (jd jdt_Mo_undo 8 rfl)) ?_
        refine J_br (w_icmp_ge C (jd jdt_Mo_undo 9 rfl) rfl) (fun h2 => J_pos h2 ?_) (fun h2 => J_neg h2 ?_)
        · refine J_mono (w_aload_n C (jd jdt_Mo_undo 10 rfl) rfl) ?_
          refine J_mono (jg_Mo_88 C hy0 (jd jdt_Mo_undo 11 rfl)) ?_
          refine J_mono (w_sipush_488 C (jd jdt_Mo_undo 12 rfl)) ?_
          refine J_mono (w_iload_n C (jd jdt_Mo_undo 13 rfl) rfl) ?_
          refine J_mono (w_iadd C (jd jdt_Mo_undo 14 rfl)) ?_
          refine J_mono (w_aload_n C (jd jdt_Mo_undo 15 rfl) rfl) ?_
          refine J_mono (jg_Mo_133 C hy0 (jd jdt_Mo_undo 16 rfl)) ?_
          refine J_mono (w_sipush_488 C (jd jdt_Mo_undo 17 rfl)) ?_
          refine J_mono (w_aload_n C (jd jdt_Mo_undo 18 rfl) rfl) ?_
          refine J_mono (jg_Mo_470 C hy0 (jd jdt_Mo_undo 19 rfl)) ?_
          refine J_mono (w_imul C (jd jdt_Mo_undo 20 rfl)) ?_
          refine J_mono (w_iload_n C (jd jdt_Mo_undo 21 rfl) rfl) ?_
          refine J_mono (w_iadd C (jd jdt_Mo_undo 22 rfl)) ?_
          refine J_bind (fun v3 hv3 => ?_)
          refine J_mono (w_iald C (jkf_12_62 hy0) hv3 (jd jdt_Mo_undo 23 rfl)) ?_
          refine J_bind (fun M4 hM4 => ?_)
          refine J_mono (w_iast C F (jkf_12_36 hy0) hM4 (jd jdt_Mo_undo 24 rfl)) ?_
          refine J_mono (w_iinc (v := x1 + 1) (ls' := [some (.ref y0), some (.int (x1 + 1))]) C (jd jdt_Mo_undo 25 rfl) rfl rfl (by decide) rfl rfl) ?_
          refine J_mono (w_goto C (jd jdt_Mo_undo 26 rfl) rfl) ?_
          exact J_sub (ih (x1 + 1) M4) ⟨rfl, rfl, trivial⟩
        · exact J_some (fun hx => Wk_sb hx ⟨rfl, trivial⟩)
    refine J_seq (fun (q5 : SM) => Wk p l e R s m args below meth c G 2 Q 0 0 jN0 (jce G q5) 49 [some (.ref a0), none] []) (J_sub (L11 a0 hp0 jfuel 0 M) ⟨rfl, rfl, trivial⟩) (fun q5 hq5 => ?_)
    refine J_mono (w_aload_n C (jd jdt_Mo_undo 27 rfl) rfl) ?_
    refine J_mono (w_aload_n C (jd jdt_Mo_undo 28 rfl) rfl) ?_
    refine J_mono (jg_Mo_470 C hp0 (jd jdt_Mo_undo 29 rfl)) ?_
    refine J_mono (w_bipush_20 C (jd jdt_Mo_undo 30 rfl)) ?_
    refine J_mono (w_iadd C (jd jdt_Mo_undo 31 rfl)) ?_
    refine J_mono (w_iconst_1 C (jd jdt_Mo_undo 32 rfl)) ?_
    refine J_mono (w_isub C (jd jdt_Mo_undo 33 rfl)) ?_
    refine J_mono (w_bipush_20 C (jd jdt_Mo_undo 34 rfl)) ?_
    refine J_mono (w_irem C (jd jdt_Mo_undo 35 rfl) (by decide)) ?_
    refine J_mono (jp_Mo_470 C F hp0 (jd jdt_Mo_undo 36 rfl)) ?_
    refine J_mono (w_aload_n C (jd jdt_Mo_undo 37 rfl) rfl) ?_
    refine J_mono (w_dup_r C (jd jdt_Mo_undo 38 rfl)) ?_
    refine J_mono (jg_Mo_370 C hp0 (jd jdt_Mo_undo 39 rfl)) ?_
    refine J_mono (w_iconst_1 C (jd jdt_Mo_undo 40 rfl)) ?_
    refine J_mono (w_isub C (jd jdt_Mo_undo 41 rfl)) ?_
    refine J_mono (jp_Mo_370 C F hp0 (jd jdt_Mo_undo 42 rfl)) ?_
    refine J_mono (w_aload_n C (jd jdt_Mo_undo 43 rfl) rfl) ?_
    refine J_bind (fun q6 hq6 => ?_)
    refine J_mono (jc_Mo_377 C hp0 (C_Mo_plays l G F a0 hp0 (sI (sI q5 a0 64 ((((q5.1 a0 64) + 20) - 1) - (((q5.1 a0 64) + 20) - 1) / 20 * 20)) a0 63 (((sI q5 a0 64 ((((q5.1 a0 64) + 20) - 1) - (((q5.1 a0 64) + 20) - 1) / 20 * 20)).1 a0 63) - 1)) hq6) rfl (Nat.le_trans (Nat.le_of_ble_eq_true rfl : 5 + 1 ≤ 6) hD) (jd jdt_Mo_undo 44 rfl)) ?_
    refine J_mono (w_iconst_1 C (jd jdt_Mo_undo 45 rfl)) ?_
    exact J_some (fun hx => hR 1 q6 hx _ _ (jd jdt_Mo_undo 46 rfl) rfl)
end
theorem C_Mo_undo (l : Launch) (G : JG) (F : jF G = false) (a0 : Nat) (hp0 : jkd a0 12) (M : SM) {q : (Int32 × SM)} (hf : f_Mo_undo a0 M = some q) : jMet l jy_Mo_undo jb_Mo_undo 2 (some FieldType.boolean) 6 0 0 G [.ref a0] jN0 (jce G M) (some (.int q.1)) jN0 (jce G q.2) :=
  j_met jo_Mo_undo (by decide) (Nat.le_of_ble_eq_true rfl) (fun p e s m args below meth c C hr hm => K_Mo_undo C F (Nat.le_refl _) a0 hp0 M (fun t => t = q) (fun v M' hX pc ls hd hn => by cases hX; exact w_iret C hr hn hd) _ hf rfl)
def lp_Mo_keeps_15 (y0 : Nat) : Nat → Int32 → SM → Option (SM)
  | 0, _, _ => none
  | n + 1, x1, M => if x1 < 488 then ((aI M (jpf y0 36) (488 + x1)).bind fun v2 => (aS M (jpf y0 62) ((488 * (M.1 y0 64)) + x1) v2).bind fun M3 => lp_Mo_keeps_15 y0 n (x1 + 1) M3) else (some M)
def f_Mo_keeps (a0 : Nat) (M : SM) : Option SM := (lp_Mo_keeps_15 a0 jfuel 0 (sI M a0 64 (((M.1 a0 64) + 1) - ((M.1 a0 64) + 1) / 20 * 20))).bind fun q4 => if (q4.1 a0 63) < 20 then (some (sI q4 a0 63 ((q4.1 a0 63) + 1))) else (some q4)
section
variable {p : Program} {l : Launch} {e : Env} {R : Room} {s : State} {m : MethodId} {args : Array Value} {below : List Frame} {meth : Method} {c : Code} {G : JG} {D : Nat} {Q : State → Prop}
set_option maxHeartbeats 4000000 in
set_option maxRecDepth 20000 in
theorem K_Mo_keeps (C : jCx p R s m args meth c G jb_Mo_keeps 2 D "SluicePitModel") (F : jF G = false) (hD : 1 ≤ D) (a0 : Nat) (hp0 : jkd a0 12) (M : SM) (X : SM → Prop) (hR : ∀ M', X M' → ∀ (pc : Nat) (ls : List (Option Value)), decode jb_Mo_keeps pc = .ok (.return_, 1) → Wk p l e R s m args below meth c G 2 Q 0 0 jN0 (jce G M') pc ls []) : J X (f_Mo_keeps a0 M) (Wk p l e R s m args below meth c G 2 Q 0 0 jN0 (jce G M) 0 [some (.ref a0), none] []) := by
  unfold f_Mo_keeps
  refine J_mono (w_aload_n C (jd jdt_Mo_keeps 0 rfl) rfl) ?_
  refine J_mono (w_aload_n C (jd jdt_Mo_keeps 1 rfl) rfl) ?_
  refine J_mono (jg_Mo_470 C hp0 (jd jdt_Mo_keeps 2 rfl)) ?_
  refine J_mono (w_iconst_1 C (jd jdt_Mo_keeps 3 rfl)) ?_
  refine J_mono (w_iadd C (jd jdt_Mo_keeps 4 rfl)) ?_
  refine J_mono (w_bipush_20 C (jd jdt_Mo_keeps 5 rfl)) ?_
  refine J_mono (w_irem C (jd jdt_Mo_keeps 6 rfl) (by decide)) ?_
  refine J_mono (jp_Mo_470 C F hp0 (jd jdt_Mo_keeps 7 rfl)) ?_
  refine J_mono (w_iconst_0 C (jd jdt_Mo_keeps 8 rfl)) ?_
  refine J_mono (w_istore_n (ls' := [some (.ref a0), some (.int 0)]) C (jd jdt_Mo_keeps 9 rfl) (by decide) rfl rfl) ?_
  have L15 : ∀ (y0 : Nat) (hy0 : jkd y0 12) (n : Nat) (x1 : Int32) (M : SM), J (fun (q4 : SM) => Wk p l e R s m args below meth c G 2 Q 0 0 jN0 (jce G q4) 53 [some (.ref y0), none] []) (lp_Mo_keeps_15 y0 n x1 M) (Wk p l e R s m args below meth c G 2 Q 0 0 jN0 (jce G M) 15 [some (.ref y0), some (.int x1)] []) := by
    intro y0 hy0 n
    induction n with
    | zero => intro x1 M; exact J_none
    | succ n ih =>
      intro x1 M
      unfold lp_Mo_keeps_15
      refine J_mono (w_iload_n C (jd jdt_Mo_keeps 10 rfl) rfl) ?_
      refine J_mono (w_sipush_488 C (jd jdt_Mo_keeps 11 rfl)) ?_
      refine J_br (w_icmp_ge C (jd jdt_Mo_keeps 12 rfl) rfl) (fun h1 => J_pos h1 ?_) (fun h1 => J_neg h1 ?_)
      · refine J_mono (w_aload_n C (jd jdt_Mo_keeps 13 rfl) rfl) ?_
        refine J_mono (jg_Mo_133 C hy0 (jd jdt_Mo_keeps 14 rfl)) ?_
        refine J_mono (w_sipush_488 C (jd jdt_Mo_keeps 15 rfl)) ?_
        refine J_mono (w_aload_n C (jd jdt_Mo_keeps 16 rfl) rfl) ?_
        refine J_mono (jg_Mo_470 C hy0 (jd jdt_Mo_keeps 17 rfl)) ?_
        refine J_mono (w_imul C (jd jdt_Mo_keeps 18 rfl)) ?_
        refine J_mono (w_iload_n C (jd jdt_Mo_keeps 19 rfl) rfl) ?_
        refine J_mono (w_iadd C (jd jdt_Mo_keeps 20 rfl)) ?_
        refine J_mono (w_aload_n C (jd jdt_Mo_keeps 21 rfl) rfl) ?_
        refine J_mono (jg_Mo_88 C hy0 (jd jdt_Mo_keeps 22 rfl)) ?_
        refine J_mono (w_sipush_488 C (jd jdt_Mo_keeps 23 rfl)) ?_
        refine J_mono (w_iload_n C (jd jdt_Mo_keeps 24 rfl) rfl) ?_
        refine J_mono (w_iadd C (jd jdt_Mo_keeps 25 rfl)) ?_
        refine J_bind (fun v2 hv2 => ?_)
        refine J_mono (w_iald C (jkf_12_36 hy0) hv2 (jd jdt_Mo_keeps 26 rfl)) ?_
        refine J_bind (fun M3 hM3 => ?_)
        refine J_mono (w_iast C F (jkf_12_62 hy0) hM3 (jd jdt_Mo_keeps 27 rfl)) ?_
        refine J_mono (w_iinc (v := x1 + 1) (ls' := [some (.ref y0), some (.int (x1 + 1))]) C (jd jdt_Mo_keeps 28 rfl) rfl rfl (by decide) rfl rfl) ?_
        refine J_mono (w_goto C (jd jdt_Mo_keeps 29 rfl) rfl) ?_
        exact J_sub (ih (x1 + 1) M3) ⟨rfl, rfl, trivial⟩
      · exact J_some (fun hx => Wk_sb hx ⟨rfl, trivial⟩)
  refine J_seq (fun (q4 : SM) => Wk p l e R s m args below meth c G 2 Q 0 0 jN0 (jce G q4) 53 [some (.ref a0), none] []) (J_sub (L15 a0 hp0 jfuel 0 (sI M a0 64 (((M.1 a0 64) + 1) - ((M.1 a0 64) + 1) / 20 * 20))) ⟨rfl, rfl, trivial⟩) (fun q4 hq4 => ?_)
  refine J_mono (w_aload_n C (jd jdt_Mo_keeps 30 rfl) rfl) ?_
  refine J_mono (jg_Mo_370 C hp0 (jd jdt_Mo_keeps 31 rfl)) ?_
  refine J_mono (w_bipush_20 C (jd jdt_Mo_keeps 32 rfl)) ?_
  refine J_br (w_icmp_ge C (jd jdt_Mo_keeps 33 rfl) rfl) (fun h5 => J_pos h5 ?_) (fun h5 => J_neg h5 ?_)
  · refine J_mono (w_aload_n C (jd jdt_Mo_keeps 34 rfl) rfl) ?_
    refine J_mono (w_dup_r C (jd jdt_Mo_keeps 35 rfl)) ?_
    refine J_mono (jg_Mo_370 C hp0 (jd jdt_Mo_keeps 36 rfl)) ?_
    refine J_mono (w_iconst_1 C (jd jdt_Mo_keeps 37 rfl)) ?_
    refine J_mono (w_iadd C (jd jdt_Mo_keeps 38 rfl)) ?_
    refine J_mono (jp_Mo_370 C F hp0 (jd jdt_Mo_keeps 39 rfl)) ?_
    exact J_some (fun hx => hR (sI q4 a0 63 ((q4.1 a0 63) + 1)) hx _ _ (jd jdt_Mo_keeps 40 rfl))
  · exact J_some (fun hx => hR q4 hx _ _ (jd jdt_Mo_keeps 40 rfl))
end
theorem C_Mo_keeps (l : Launch) (G : JG) (F : jF G = false) (a0 : Nat) (hp0 : jkd a0 12) (M : SM) {q : SM} (hf : f_Mo_keeps a0 M = some q) : jMet l jy_Mo_keeps jb_Mo_keeps 2 none 1 0 0 G [.ref a0] jN0 (jce G M) none jN0 (jce G q) :=
  j_met jo_Mo_keeps (by decide) (Nat.le_of_ble_eq_true rfl) (fun p e s m args below meth c C hr hm => K_Mo_keeps C F (Nat.le_refl _) a0 hp0 M (fun t => t = q) (fun M' hX pc ls hd => by cases hX; exact w_vret C hr hd) _ hf rfl)
def lp_Mo_mark_61 (y0 : Nat) (y3 : Int32) (y5 : Int32) : Nat → Int32 → SM → Option (SM)
  | 0, _, _ => none
  | n + 1, x7, M => if y3 < x7 then (some M) else ((aS M (jpf y0 36) (y5 + x7) 2).bind fun M10 => lp_Mo_mark_61 y0 y3 y5 n (x7 + 1) M10)
def lp_Mo_mark_106 (y0 : Nat) (y3 : Int32) (y4 : Int32) (y5 : Int32) : Nat → Int32 → Int32 → SM → Option (Int32 × SM)
  | 0, _, _, _ => none
  | n + 1, x6, x7, M => if y3 < x7 then (some (x6, M)) else ((if y4 = 0 then (some 2) else (some 0) : Option (Int32)).bind fun q17 => (aI M (jpf y0 36) (y5 + x7)).bind fun v19 => (if v19 = q17 then (some x6) else (some (x6 + 1)) : Option (Int32)).bind fun q20 => (aS M (jpf y0 36) (y5 + x7) q17).bind fun M22 => lp_Mo_mark_106 y0 y3 y4 y5 n q20 (x7 + 1) M22)
def f_Mo_mark (a0 : Nat) (a1 : Int32) (a2 : Int32) (a3 : Int32) (a4 : Int32) (M : SM) : Option (Int32 × SM) := (f_Mo_isDesk a0 a1 M).bind fun q1 => if q1 = 0 then (some ((-1), M)) else ((f_Mo_isIn a2.toInt64 1 60).bind fun q3 => if q3 = 0 then (some ((-1), M)) else ((f_Mo_isIn a3.toInt64 a2.toInt64 60).bind fun q5 => if q5 = 0 then (some ((-1), M)) else ((f_Mo_keeps a0 M).bind fun q7 => (f_Mo_barsOf a0 a1 q7).bind fun q8 => (lp_Mo_mark_61 a0 a3 (488 + (61 * a1)) jfuel (q8 + 1) q7).bind fun q11 => (aI q11 (jpf a0 36) (488 + (61 * a1))).bind fun v12 => (if v12 < a3 then ((aS q11 (jpf a0 36) (488 + (61 * a1)) a3).bind fun M15 => some M15) else (some q11) : Option (SM)).bind fun q13 => (lp_Mo_mark_106 a0 a3 a4 (488 + (61 * a1)) jfuel 0 a2 q13).bind fun q23 => (f_Mo_plays a0 q23.2).bind fun q24 => some (q23.1, q24))))
section
variable {p : Program} {l : Launch} {e : Env} {R : Room} {s : State} {m : MethodId} {args : Array Value} {below : List Frame} {meth : Method} {c : Code} {G : JG} {D : Nat} {Q : State → Prop}
set_option maxHeartbeats 4000000 in
set_option maxRecDepth 20000 in
theorem K_Mo_mark (C : jCx p R s m args meth c G jb_Mo_mark 9 D "SluicePitModel") (F : jF G = false) (hD : 6 ≤ D) (a0 : Nat) (a1 : Int32) (a2 : Int32) (a3 : Int32) (a4 : Int32) (hp0 : jkd a0 12) (M : SM) (X : (Int32 × SM) → Prop) (hR : ∀ v M', X (v, M') → ∀ (pc : Nat) (ls : List (Option Value)), decode jb_Mo_mark pc = .ok (.ireturn, 1) → narrow FieldType.int (.int v) = .int v → Wk p l e R s m args below meth c G 9 Q 0 0 jN0 (jce G M') pc ls [.int v]) : J X (f_Mo_mark a0 a1 a2 a3 a4 M) (Wk p l e R s m args below meth c G 9 Q 0 0 jN0 (jce G M) 0 [some (.ref a0), some (.int a1), some (.int a2), some (.int a3), some (.int a4), none, none, none, none] []) := by
  unfold f_Mo_mark
  refine J_mono (w_aload_n C (jd jdt_Mo_mark 0 rfl) rfl) ?_
  refine J_mono (w_iload_n C (jd jdt_Mo_mark 1 rfl) rfl) ?_
  refine J_bind (fun q1 hq1 => ?_)
  refine J_mono (jc_Mo_452 C hp0 (C_Mo_isDesk l G F a0 a1 hp0 M hq1) rfl (Nat.le_trans (Nat.le_of_ble_eq_true rfl : 2 + 1 ≤ 6) hD) (jd jdt_Mo_mark 2 rfl)) ?_
  refine J_br (w_if_eq (y := 0) C (jd jdt_Mo_mark 3 rfl) rfl) (fun h2 => J_pos h2 ?_) (fun h2 => J_neg h2 ?_)
  · refine J_mono (w_iconst_m1 C (jd jdt_Mo_mark 17 rfl)) ?_
    exact J_some (fun hx => hR (-1) M hx _ _ (jd jdt_Mo_mark 18 rfl) rfl)
  · refine J_mono (w_iload_n C (jd jdt_Mo_mark 4 rfl) rfl) ?_
    refine J_mono (w_i2l C (jd jdt_Mo_mark 5 rfl)) ?_
    refine J_mono (w_lconst_1 C (jd jdt_Mo_mark 6 rfl)) ?_
    refine J_mono (w_ldc2 C (jd jdt_Mo_mark 7 rfl) jw_1691) ?_
    refine J_bind (fun q3 hq3 => ?_)
    refine J_mono (jc_Mo_261 C (C_Mo_isIn l G F a2.toInt64 1 60 M hq3) rfl (Nat.le_trans (Nat.le_of_ble_eq_true rfl : 1 + 1 ≤ 6) hD) (jd jdt_Mo_mark 8 rfl)) ?_
    refine J_br (w_if_eq (y := 0) C (jd jdt_Mo_mark 9 rfl) rfl) (fun h4 => J_pos h4 ?_) (fun h4 => J_neg h4 ?_)
    · refine J_mono (w_iconst_m1 C (jd jdt_Mo_mark 17 rfl)) ?_
      exact J_some (fun hx => hR (-1) M hx _ _ (jd jdt_Mo_mark 18 rfl) rfl)
    · refine J_mono (w_iload_n C (jd jdt_Mo_mark 10 rfl) rfl) ?_
      refine J_mono (w_i2l C (jd jdt_Mo_mark 11 rfl)) ?_
      refine J_mono (w_iload_n C (jd jdt_Mo_mark 12 rfl) rfl) ?_
      refine J_mono (w_i2l C (jd jdt_Mo_mark 13 rfl)) ?_
      refine J_mono (w_ldc2 C (jd jdt_Mo_mark 14 rfl) jw_1691) ?_
      refine J_bind (fun q5 hq5 => ?_)
      refine J_mono (jc_Mo_261 C (C_Mo_isIn l G F a3.toInt64 a2.toInt64 60 M hq5) rfl (Nat.le_trans (Nat.le_of_ble_eq_true rfl : 1 + 1 ≤ 6) hD) (jd jdt_Mo_mark 15 rfl)) ?_
      refine J_br (w_if_ne (y := 0) C (jd jdt_Mo_mark 16 rfl) rfl) (fun h6 => J_pos h6 ?_) (fun h6 => J_neg h6 ?_)
      · refine J_mono (w_iconst_m1 C (jd jdt_Mo_mark 17 rfl)) ?_
        exact J_some (fun hx => hR (-1) M hx _ _ (jd jdt_Mo_mark 18 rfl) rfl)
      · refine J_mono (w_aload_n C (jd jdt_Mo_mark 19 rfl) rfl) ?_
        refine J_bind (fun q7 hq7 => ?_)
        refine J_mono (jc_Mo_473 C hp0 (C_Mo_keeps l G F a0 hp0 M hq7) rfl (Nat.le_trans (Nat.le_of_ble_eq_true rfl : 1 + 1 ≤ 6) hD) (jd jdt_Mo_mark 20 rfl)) ?_
        refine J_mono (w_sipush_488 C (jd jdt_Mo_mark 21 rfl)) ?_
        refine J_mono (w_bipush_61 C (jd jdt_Mo_mark 22 rfl)) ?_
        refine J_mono (w_iload_n C (jd jdt_Mo_mark 23 rfl) rfl) ?_
        refine J_mono (w_imul C (jd jdt_Mo_mark 24 rfl)) ?_
        refine J_mono (w_iadd C (jd jdt_Mo_mark 25 rfl)) ?_
        refine J_mono (w_istore (ls' := [some (.ref a0), some (.int a1), some (.int a2), some (.int a3), some (.int a4), some (.int (488 + (61 * a1))), none, none, none]) C (jd jdt_Mo_mark 26 rfl) (by decide) rfl rfl) ?_
        refine J_mono (w_iconst_0 C (jd jdt_Mo_mark 27 rfl)) ?_
        refine J_mono (w_istore (ls' := [some (.ref a0), some (.int a1), some (.int a2), some (.int a3), some (.int a4), some (.int (488 + (61 * a1))), some (.int 0), none, none]) C (jd jdt_Mo_mark 28 rfl) (by decide) rfl rfl) ?_
        refine J_mono (w_aload_n C (jd jdt_Mo_mark 29 rfl) rfl) ?_
        refine J_mono (w_iload_n C (jd jdt_Mo_mark 30 rfl) rfl) ?_
        refine J_bind (fun q8 hq8 => ?_)
        refine J_mono (jc_Mo_383 C hp0 (C_Mo_barsOf l G F a0 a1 hp0 q7 hq8) rfl (Nat.le_trans (Nat.le_of_ble_eq_true rfl : 1 + 1 ≤ 6) hD) (jd jdt_Mo_mark 31 rfl)) ?_
        refine J_mono (w_iconst_1 C (jd jdt_Mo_mark 32 rfl)) ?_
        refine J_mono (w_iadd C (jd jdt_Mo_mark 33 rfl)) ?_
        refine J_mono (w_istore (ls' := [some (.ref a0), some (.int a1), some (.int a2), some (.int a3), some (.int a4), some (.int (488 + (61 * a1))), some (.int 0), some (.int (q8 + 1)), none]) C (jd jdt_Mo_mark 34 rfl) (by decide) rfl rfl) ?_
        have L61 : ∀ (y0 : Nat) (y2 : Int32) (y3 : Int32) (y4 : Int32) (y5 : Int32) (y6 : Int32) (hy0 : jkd y0 12) (n : Nat) (x7 : Int32) (M : SM), J (fun (q11 : SM) => Wk p l e R s m args below meth c G 9 Q 0 0 jN0 (jce G q11) 84 [some (.ref y0), none, some (.int y2), some (.int y3), some (.int y4), some (.int y5), some (.int y6), none, none] []) (lp_Mo_mark_61 y0 y3 y5 n x7 M) (Wk p l e R s m args below meth c G 9 Q 0 0 jN0 (jce G M) 61 [some (.ref y0), none, some (.int y2), some (.int y3), some (.int y4), some (.int y5), some (.int y6), some (.int x7), none] []) := by
          intro y0 y2 y3 y4 y5 y6 hy0 n
          induction n with
          | zero => intro x7 M; exact J_none
          | succ n ih =>
            intro x7 M
            unfold lp_Mo_mark_61
            refine J_mono (w_iload C (jd jdt_Mo_mark 35 rfl) rfl) ?_
            refine J_mono (w_iload_n C (jd jdt_Mo_mark 36 rfl) rfl) ?_
            refine J_br (w_icmp_gt C (jd jdt_Mo_mark 37 rfl) rfl) (fun h9 => J_pos h9 ?_) (fun h9 => J_neg h9 ?_)
            · exact J_some (fun hx => Wk_sb hx ⟨rfl, rfl, rfl, rfl, rfl, rfl, trivial⟩)
            · refine J_mono (w_aload_n C (jd jdt_Mo_mark 38 rfl) rfl) ?_
              refine J_mono (jg_Mo_88 C hy0 (jd jdt_Mo_mark 39 rfl)) ?_
              refine J_mono (w_iload C (jd jdt_Mo_mark 40 rfl) rfl) ?_
              refine J_mono (w_iload C (jd jdt_Mo_mark 41 rfl) rfl) ?_
              refine J_mono (w_iadd C (jd jdt_Mo_mark 42 rfl)) ?_
              refine J_mono (w_iconst_2 C (jd jdt_Mo_mark 43 rfl)) ?_
              refine J_bind (fun M10 hM10 => ?_)
              refine J_mono (w_iast C F (jkf_12_36 hy0) hM10 (jd jdt_Mo_mark 44 rfl)) ?_
              refine J_mono (w_iinc (v := x7 + 1) (ls' := [some (.ref y0), none, some (.int y2), some (.int y3), some (.int y4), some (.int y5), some (.int y6), some (.int (x7 + 1)), none]) C (jd jdt_Mo_mark 45 rfl) rfl rfl (by decide) rfl rfl) ?_
              refine J_mono (w_goto C (jd jdt_Mo_mark 46 rfl) rfl) ?_
              exact J_sub (ih (x7 + 1) M10) ⟨rfl, rfl, rfl, rfl, rfl, rfl, rfl, trivial⟩
        refine J_seq (fun (q11 : SM) => Wk p l e R s m args below meth c G 9 Q 0 0 jN0 (jce G q11) 84 [some (.ref a0), none, some (.int a2), some (.int a3), some (.int a4), some (.int (488 + (61 * a1))), some (.int 0), none, none] []) (J_sub (L61 a0 a2 a3 a4 (488 + (61 * a1)) 0 hp0 jfuel (q8 + 1) q7) ⟨rfl, rfl, rfl, rfl, rfl, rfl, rfl, trivial⟩) (fun q11 hq11 => ?_)
        refine J_mono (w_aload_n C (jd jdt_Mo_mark 47 rfl) rfl) ?_
        refine J_mono (jg_Mo_88 C hp0 (jd jdt_Mo_mark 48 rfl)) ?_
        refine J_mono (w_iload C (jd jdt_Mo_mark 49 rfl) rfl) ?_
        refine J_bind (fun v12 hv12 => ?_)
        refine J_mono (w_iald C (jkf_12_36 hp0) hv12 (jd jdt_Mo_mark 50 rfl)) ?_
        refine J_mono (w_iload_n C (jd jdt_Mo_mark 51 rfl) rfl) ?_
        refine J_seq (fun (q13 : SM) => Wk p l e R s m args below meth c G 9 Q 0 0 jN0 (jce G q13) 103 [some (.ref a0), none, some (.int a2), some (.int a3), some (.int a4), some (.int (488 + (61 * a1))), some (.int 0), none, none] []) ?_ (fun q13 hq13 => ?_)
        · refine J_br (w_icmp_ge C (jd jdt_Mo_mark 52 rfl) rfl) (fun h14 => J_pos h14 ?_) (fun h14 => J_neg h14 ?_)
          · refine J_mono (w_aload_n C (jd jdt_Mo_mark 53 rfl) rfl) ?_
            refine J_mono (jg_Mo_88 C hp0 (jd jdt_Mo_mark 54 rfl)) ?_
            refine J_mono (w_iload C (jd jdt_Mo_mark 55 rfl) rfl) ?_
            refine J_mono (w_iload_n C (jd jdt_Mo_mark 56 rfl) rfl) ?_
            refine J_bind (fun M15 hM15 => ?_)
            refine J_mono (w_iast C F (jkf_12_36 hp0) hM15 (jd jdt_Mo_mark 57 rfl)) ?_
            exact J_some (fun hx => Wk_sb hx ⟨rfl, rfl, rfl, rfl, rfl, rfl, trivial⟩)
          · exact J_some (fun hx => Wk_sb hx ⟨rfl, rfl, rfl, rfl, rfl, rfl, trivial⟩)
        · refine J_mono (w_iload_n C (jd jdt_Mo_mark 58 rfl) rfl) ?_
          refine J_mono (w_istore (ls' := [some (.ref a0), none, some (.int a2), some (.int a3), some (.int a4), some (.int (488 + (61 * a1))), some (.int 0), some (.int a2), none]) C (jd jdt_Mo_mark 59 rfl) (by decide) rfl rfl) ?_
          have L106 : ∀ (y0 : Nat) (y3 : Int32) (y4 : Int32) (y5 : Int32) (hy0 : jkd y0 12) (n : Nat) (x6 : Int32) (x7 : Int32) (M : SM), J (fun (q23 : Int32 × SM) => Wk p l e R s m args below meth c G 9 Q 0 0 jN0 (jce G q23.2) 160 [some (.ref y0), none, none, none, none, none, some (.int q23.1), none, none] []) (lp_Mo_mark_106 y0 y3 y4 y5 n x6 x7 M) (Wk p l e R s m args below meth c G 9 Q 0 0 jN0 (jce G M) 106 [some (.ref y0), none, none, some (.int y3), some (.int y4), some (.int y5), some (.int x6), some (.int x7), none] []) := by
            intro y0 y3 y4 y5 hy0 n
            induction n with
            | zero => intro x6 x7 M; exact J_none
            | succ n ih =>
              intro x6 x7 M
              unfold lp_Mo_mark_106
              refine J_mono (w_iload C (jd jdt_Mo_mark 60 rfl) rfl) ?_
              refine J_mono (w_iload_n C (jd jdt_Mo_mark 61 rfl) rfl) ?_
              refine J_br (w_icmp_gt C (jd jdt_Mo_mark 62 rfl) rfl) (fun h16 => J_pos h16 ?_) (fun h16 => J_neg h16 ?_)
              · exact J_some (fun hx => Wk_sb hx ⟨rfl, rfl, trivial⟩)
              · refine J_mono (w_iload C (jd jdt_Mo_mark 63 rfl) rfl) ?_
                refine J_seq (fun (q17 : Int32) => Wk p l e R s m args below meth c G 9 Q 0 0 jN0 (jce G M) 122 [some (.ref y0), none, none, some (.int y3), some (.int y4), some (.int y5), some (.int x6), some (.int x7), none] [.int q17]) ?_ (fun q17 hq17 => ?_)
                · refine J_br (w_if_eq (y := 0) C (jd jdt_Mo_mark 64 rfl) rfl) (fun h18 => J_pos h18 ?_) (fun h18 => J_neg h18 ?_)
                  · refine J_mono (w_iconst_2 C (jd jdt_Mo_mark 67 rfl)) ?_
                    exact J_some (fun hx => Wk_sb hx ⟨rfl, rfl, rfl, rfl, rfl, rfl, trivial⟩)
                  · refine J_mono (w_iconst_0 C (jd jdt_Mo_mark 65 rfl)) ?_
                    refine J_mono (w_goto C (jd jdt_Mo_mark 66 rfl) rfl) ?_
                    exact J_some (fun hx => Wk_sb hx ⟨rfl, rfl, rfl, rfl, rfl, rfl, trivial⟩)
                · refine J_mono (w_istore (ls' := [some (.ref y0), none, none, some (.int y3), some (.int y4), some (.int y5), some (.int x6), some (.int x7), some (.int q17)]) C (jd jdt_Mo_mark 68 rfl) (by decide) rfl rfl) ?_
                  refine J_mono (w_aload_n C (jd jdt_Mo_mark 69 rfl) rfl) ?_
                  refine J_mono (jg_Mo_88 C hy0 (jd jdt_Mo_mark 70 rfl)) ?_
                  refine J_mono (w_iload C (jd jdt_Mo_mark 71 rfl) rfl) ?_
                  refine J_mono (w_iload C (jd jdt_Mo_mark 72 rfl) rfl) ?_
                  refine J_mono (w_iadd C (jd jdt_Mo_mark 73 rfl)) ?_
                  refine J_bind (fun v19 hv19 => ?_)
                  refine J_mono (w_iald C (jkf_12_36 hy0) hv19 (jd jdt_Mo_mark 74 rfl)) ?_
                  refine J_mono (w_iload C (jd jdt_Mo_mark 75 rfl) rfl) ?_
                  refine J_seq (fun (q20 : Int32) => Wk p l e R s m args below meth c G 9 Q 0 0 jN0 (jce G M) 142 [some (.ref y0), none, none, some (.int y3), some (.int y4), some (.int y5), some (.int q20), some (.int x7), some (.int q17)] []) ?_ (fun q20 hq20 => ?_)
                  · refine J_br (w_icmp_eq C (jd jdt_Mo_mark 76 rfl) rfl) (fun h21 => J_pos h21 ?_) (fun h21 => J_neg h21 ?_)
                    · exact J_some (fun hx => Wk_sb hx ⟨rfl, rfl, rfl, rfl, rfl, rfl, rfl, trivial⟩)
                    · refine J_mono (w_iinc (v := x6 + 1) (ls' := [some (.ref y0), none, none, some (.int y3), some (.int y4), some (.int y5), some (.int (x6 + 1)), some (.int x7), some (.int q17)]) C (jd jdt_Mo_mark 77 rfl) rfl rfl (by decide) rfl rfl) ?_
                      exact J_some (fun hx => Wk_sb hx ⟨rfl, rfl, rfl, rfl, rfl, rfl, rfl, trivial⟩)
                  · refine J_mono (w_aload_n C (jd jdt_Mo_mark 78 rfl) rfl) ?_
                    refine J_mono (jg_Mo_88 C hy0 (jd jdt_Mo_mark 79 rfl)) ?_
                    refine J_mono (w_iload C (jd jdt_Mo_mark 80 rfl) rfl) ?_
                    refine J_mono (w_iload C (jd jdt_Mo_mark 81 rfl) rfl) ?_
                    refine J_mono (w_iadd C (jd jdt_Mo_mark 82 rfl)) ?_
                    refine J_mono (w_iload C (jd jdt_Mo_mark 83 rfl) rfl) ?_
                    refine J_bind (fun M22 hM22 => ?_)
                    refine J_mono (w_iast C F (jkf_12_36 hy0) hM22 (jd jdt_Mo_mark 84 rfl)) ?_
                    refine J_mono (w_iinc (v := x7 + 1) (ls' := [some (.ref y0), none, none, some (.int y3), some (.int y4), some (.int y5), some (.int q20), some (.int (x7 + 1)), some (.int q17)]) C (jd jdt_Mo_mark 85 rfl) rfl rfl (by decide) rfl rfl) ?_
                    refine J_mono (w_goto C (jd jdt_Mo_mark 86 rfl) rfl) ?_
                    exact J_sub (ih q20 (x7 + 1) M22) ⟨rfl, rfl, rfl, rfl, rfl, rfl, trivial⟩
          refine J_seq (fun (q23 : Int32 × SM) => Wk p l e R s m args below meth c G 9 Q 0 0 jN0 (jce G q23.2) 160 [some (.ref a0), none, none, none, none, none, some (.int q23.1), none, none] []) (J_sub (L106 a0 a3 a4 (488 + (61 * a1)) hp0 jfuel 0 a2 q13) ⟨rfl, rfl, rfl, rfl, rfl, rfl, trivial⟩) (fun q23 hq23 => ?_)
          refine J_mono (w_aload_n C (jd jdt_Mo_mark 87 rfl) rfl) ?_
          refine J_bind (fun q24 hq24 => ?_)
          refine J_mono (jc_Mo_377 C hp0 (C_Mo_plays l G F a0 hp0 q23.2 hq24) rfl (Nat.le_trans (Nat.le_of_ble_eq_true rfl : 5 + 1 ≤ 6) hD) (jd jdt_Mo_mark 88 rfl)) ?_
          refine J_mono (w_iload C (jd jdt_Mo_mark 89 rfl) rfl) ?_
          exact J_some (fun hx => hR q23.1 q24 hx _ _ (jd jdt_Mo_mark 90 rfl) rfl)
end
theorem C_Mo_mark (l : Launch) (G : JG) (F : jF G = false) (a0 : Nat) (a1 : Int32) (a2 : Int32) (a3 : Int32) (a4 : Int32) (hp0 : jkd a0 12) (M : SM) {q : (Int32 × SM)} (hf : f_Mo_mark a0 a1 a2 a3 a4 M = some q) : jMet l jy_Mo_mark jb_Mo_mark 9 (some FieldType.int) 6 0 0 G [.ref a0, .int a1, .int a2, .int a3, .int a4] jN0 (jce G M) (some (.int q.1)) jN0 (jce G q.2) :=
  j_met jo_Mo_mark (by decide) (Nat.le_of_ble_eq_true rfl) (fun p e s m args below meth c C hr hm => K_Mo_mark C F (Nat.le_refl _) a0 a1 a2 a3 a4 hp0 M (fun t => t = q) (fun v M' hX pc ls hd hn => by cases hX; exact w_iret C hr hn hd) _ hf rfl)
def lp_Mo_teach_95 (y0 : Nat) (y1 : Int32) : Nat → Int32 → SM → Option (SM)
  | 0, _, _ => none
  | n + 1, x2, M => if x2 < (M.1 y0 44) then ((aI M (jpf y0 43) x2).bind fun v14 => (aS M (jpf y0 36) (((488 + (61 * y1)) + 1) + x2) v14).bind fun M15 => lp_Mo_teach_95 y0 y1 n (x2 + 1) M15) else (some M)
def f_Mo_teach (a0 : Nat) (a1 : Int32) (M : SM) : Option (Int32 × SM) := (f_Mo_isDesk a0 a1 M).bind fun q1 => if q1 = 0 then (some ((-1), sI M a0 1 0)) else ((f_Mo_starts a0 M).bind fun q3 => (f_Mo_partTold a0 q3).bind fun q4 => (if (q4.1 a0 5) = 0 then ((f_Mo_look a0 q4).bind fun q7 => if q7.1 = (-1) then (some q7.2) else ((f_Mo_fail a0 1 (q7.2.1 a0 2) q7.2).bind fun q9 => some q9)) else (some q4) : Option (SM)).bind fun q5 => if ((sI (sI q5 a0 7 (q5.1 a0 5)) a0 8 ((sI q5 a0 7 (q5.1 a0 5)).1 a0 6)).1 a0 5) = 0 then ((f_Mo_keeps a0 (sI (sI q5 a0 7 (q5.1 a0 5)) a0 8 ((sI q5 a0 7 (q5.1 a0 5)).1 a0 6))).bind fun q11 => (aS q11 (jpf a0 36) (488 + (61 * a1)) (q11.1 a0 44)).bind fun M12 => (lp_Mo_teach_95 a0 a1 jfuel 0 M12).bind fun q16 => (f_Mo_plays a0 q16).bind fun q17 => some (q17.1 a0 44, q17)) else (some ((-1), sI (sI q5 a0 7 (q5.1 a0 5)) a0 8 ((sI q5 a0 7 (q5.1 a0 5)).1 a0 6))))
section
variable {p : Program} {l : Launch} {e : Env} {R : Room} {s : State} {m : MethodId} {args : Array Value} {below : List Frame} {meth : Method} {c : Code} {G : JG} {D : Nat} {Q : State → Prop}
set_option maxHeartbeats 4000000 in
set_option maxRecDepth 20000 in
theorem K_Mo_teach (C : jCx p R s m args meth c G jb_Mo_teach 3 D "SluicePitModel") (F : jF G = false) (hD : 8 ≤ D) (a0 : Nat) (a1 : Int32) (hp0 : jkd a0 12) (M : SM) (X : (Int32 × SM) → Prop) (hR : ∀ v M', X (v, M') → ∀ (pc : Nat) (ls : List (Option Value)), decode jb_Mo_teach pc = .ok (.ireturn, 1) → narrow FieldType.int (.int v) = .int v → Wk p l e R s m args below meth c G 3 Q 0 0 jN0 (jce G M') pc ls [.int v]) : J X (f_Mo_teach a0 a1 M) (Wk p l e R s m args below meth c G 3 Q 0 0 jN0 (jce G M) 0 [some (.ref a0), some (.int a1), none] []) := by
  unfold f_Mo_teach
  refine J_mono (w_aload_n C (jd jdt_Mo_teach 0 rfl) rfl) ?_
  refine J_mono (w_iload_n C (jd jdt_Mo_teach 1 rfl) rfl) ?_
  refine J_bind (fun q1 hq1 => ?_)
  refine J_mono (jc_Mo_452 C hp0 (C_Mo_isDesk l G F a0 a1 hp0 M hq1) rfl (Nat.le_trans (Nat.le_of_ble_eq_true rfl : 2 + 1 ≤ 8) hD) (jd jdt_Mo_teach 2 rfl)) ?_
  refine J_br (w_if_ne (y := 0) C (jd jdt_Mo_teach 3 rfl) rfl) (fun h2 => J_pos h2 ?_) (fun h2 => J_neg h2 ?_)
  · refine J_mono (w_aload_n C (jd jdt_Mo_teach 4 rfl) rfl) ?_
    refine J_mono (w_iconst_0 C (jd jdt_Mo_teach 5 rfl)) ?_
    refine J_mono (jp_Mo_215 C F hp0 (jd jdt_Mo_teach 6 rfl)) ?_
    refine J_mono (w_iconst_m1 C (jd jdt_Mo_teach 7 rfl)) ?_
    exact J_some (fun hx => hR (-1) (sI M a0 1 0) hx _ _ (jd jdt_Mo_teach 8 rfl) rfl)
  · refine J_mono (w_aload_n C (jd jdt_Mo_teach 9 rfl) rfl) ?_
    refine J_bind (fun q3 hq3 => ?_)
    refine J_mono (jc_Mo_355 C hp0 (C_Mo_starts l G F a0 hp0 M hq3) rfl (Nat.le_trans (Nat.le_of_ble_eq_true rfl : 1 + 1 ≤ 8) hD) (jd jdt_Mo_teach 10 rfl)) ?_
    refine J_mono (w_aload_n C (jd jdt_Mo_teach 11 rfl) rfl) ?_
    refine J_bind (fun q4 hq4 => ?_)
    refine J_mono (jc_Mo_327 C hp0 (C_Mo_partTold l G F a0 hp0 q3 hq4) rfl (Nat.le_trans (Nat.le_of_ble_eq_true rfl : 7 + 1 ≤ 8) hD) (jd jdt_Mo_teach 12 rfl)) ?_
    refine J_mono (w_aload_n C (jd jdt_Mo_teach 13 rfl) rfl) ?_
    refine J_mono (jg_Mo_218 C hp0 (jd jdt_Mo_teach 14 rfl)) ?_
    refine J_seq (fun (q5 : SM) => Wk p l e R s m args below meth c G 3 Q 0 0 jN0 (jce G q5) 47 [some (.ref a0), some (.int a1), none] []) ?_ (fun q5 hq5 => ?_)
    · refine J_br (w_if_ne (y := 0) C (jd jdt_Mo_teach 15 rfl) rfl) (fun h6 => J_pos h6 ?_) (fun h6 => J_neg h6 ?_)
      · refine J_mono (w_aload_n C (jd jdt_Mo_teach 16 rfl) rfl) ?_
        refine J_bind (fun q7 hq7 => ?_)
        refine J_mono (jc_Mo_230 C hp0 (C_Mo_look l G F a0 hp0 q4 hq7) rfl (Nat.le_trans (Nat.le_of_ble_eq_true rfl : 1 + 1 ≤ 8) hD) (jd jdt_Mo_teach 17 rfl)) ?_
        refine J_mono (w_iconst_m1 C (jd jdt_Mo_teach 18 rfl)) ?_
        refine J_br (w_icmp_eq C (jd jdt_Mo_teach 19 rfl) rfl) (fun h8 => J_pos h8 ?_) (fun h8 => J_neg h8 ?_)
        · exact J_some (fun hx => Wk_sb hx ⟨rfl, rfl, trivial⟩)
        · refine J_mono (w_aload_n C (jd jdt_Mo_teach 20 rfl) rfl) ?_
          refine J_mono (w_iconst_1 C (jd jdt_Mo_teach 21 rfl)) ?_
          refine J_mono (w_aload_n C (jd jdt_Mo_teach 22 rfl) rfl) ?_
          refine J_mono (jg_Mo_224 C hp0 (jd jdt_Mo_teach 23 rfl)) ?_
          refine J_bind (fun q9 hq9 => ?_)
          refine J_mono (jc_Mo_248 C hp0 (C_Mo_fail l G F a0 1 (q7.2.1 a0 2) hp0 q7.2 hq9) rfl (Nat.le_trans (Nat.le_of_ble_eq_true rfl : 1 + 1 ≤ 8) hD) (jd jdt_Mo_teach 24 rfl)) ?_
          exact J_some (fun hx => Wk_sb hx ⟨rfl, rfl, trivial⟩)
      · exact J_some (fun hx => Wk_sb hx ⟨rfl, rfl, trivial⟩)
    · refine J_mono (w_aload_n C (jd jdt_Mo_teach 25 rfl) rfl) ?_
      refine J_mono (w_aload_n C (jd jdt_Mo_teach 26 rfl) rfl) ?_
      refine J_mono (jg_Mo_218 C hp0 (jd jdt_Mo_teach 27 rfl)) ?_
      refine J_mono (jp_Mo_361 C F hp0 (jd jdt_Mo_teach 28 rfl)) ?_
      refine J_mono (w_aload_n C (jd jdt_Mo_teach 29 rfl) rfl) ?_
      refine J_mono (w_aload_n C (jd jdt_Mo_teach 30 rfl) rfl) ?_
      refine J_mono (jg_Mo_221 C hp0 (jd jdt_Mo_teach 31 rfl)) ?_
      refine J_mono (jp_Mo_13 C F hp0 (jd jdt_Mo_teach 32 rfl)) ?_
      refine J_mono (w_aload_n C (jd jdt_Mo_teach 33 rfl) rfl) ?_
      refine J_mono (jg_Mo_218 C hp0 (jd jdt_Mo_teach 34 rfl)) ?_
      refine J_br (w_if_eq (y := 0) C (jd jdt_Mo_teach 35 rfl) rfl) (fun h10 => J_pos h10 ?_) (fun h10 => J_neg h10 ?_)
      · refine J_mono (w_aload_n C (jd jdt_Mo_teach 38 rfl) rfl) ?_
        refine J_bind (fun q11 hq11 => ?_)
        refine J_mono (jc_Mo_473 C hp0 (C_Mo_keeps l G F a0 hp0 (sI (sI q5 a0 7 (q5.1 a0 5)) a0 8 ((sI q5 a0 7 (q5.1 a0 5)).1 a0 6)) hq11) rfl (Nat.le_trans (Nat.le_of_ble_eq_true rfl : 1 + 1 ≤ 8) hD) (jd jdt_Mo_teach 39 rfl)) ?_
        refine J_mono (w_aload_n C (jd jdt_Mo_teach 40 rfl) rfl) ?_
        refine J_mono (jg_Mo_88 C hp0 (jd jdt_Mo_teach 41 rfl)) ?_
        refine J_mono (w_sipush_488 C (jd jdt_Mo_teach 42 rfl)) ?_
        refine J_mono (w_bipush_61 C (jd jdt_Mo_teach 43 rfl)) ?_
        refine J_mono (w_iload_n C (jd jdt_Mo_teach 44 rfl) rfl) ?_
        refine J_mono (w_imul C (jd jdt_Mo_teach 45 rfl)) ?_
        refine J_mono (w_iadd C (jd jdt_Mo_teach 46 rfl)) ?_
        refine J_mono (w_aload_n C (jd jdt_Mo_teach 47 rfl) rfl) ?_
        refine J_mono (jg_Mo_287 C hp0 (jd jdt_Mo_teach 48 rfl)) ?_
        refine J_bind (fun M12 hM12 => ?_)
        refine J_mono (w_iast C F (jkf_12_36 hp0) hM12 (jd jdt_Mo_teach 49 rfl)) ?_
        refine J_mono (w_iconst_0 C (jd jdt_Mo_teach 50 rfl)) ?_
        refine J_mono (w_istore_n (ls' := [some (.ref a0), some (.int a1), some (.int 0)]) C (jd jdt_Mo_teach 51 rfl) (by decide) rfl rfl) ?_
        have L95 : ∀ (y0 : Nat) (y1 : Int32) (hy0 : jkd y0 12) (n : Nat) (x2 : Int32) (M : SM), J (fun (q16 : SM) => Wk p l e R s m args below meth c G 3 Q 0 0 jN0 (jce G q16) 132 [some (.ref y0), none, none] []) (lp_Mo_teach_95 y0 y1 n x2 M) (Wk p l e R s m args below meth c G 3 Q 0 0 jN0 (jce G M) 95 [some (.ref y0), some (.int y1), some (.int x2)] []) := by
          intro y0 y1 hy0 n
          induction n with
          | zero => intro x2 M; exact J_none
          | succ n ih =>
            intro x2 M
            unfold lp_Mo_teach_95
            refine J_mono (w_iload_n C (jd jdt_Mo_teach 52 rfl) rfl) ?_
            refine J_mono (w_aload_n C (jd jdt_Mo_teach 53 rfl) rfl) ?_
            refine J_mono (jg_Mo_287 C hy0 (jd jdt_Mo_teach 54 rfl)) ?_
            refine J_br (w_icmp_ge C (jd jdt_Mo_teach 55 rfl) rfl) (fun h13 => J_pos h13 ?_) (fun h13 => J_neg h13 ?_)
            · refine J_mono (w_aload_n C (jd jdt_Mo_teach 56 rfl) rfl) ?_
              refine J_mono (jg_Mo_88 C hy0 (jd jdt_Mo_teach 57 rfl)) ?_
              refine J_mono (w_sipush_488 C (jd jdt_Mo_teach 58 rfl)) ?_
              refine J_mono (w_bipush_61 C (jd jdt_Mo_teach 59 rfl)) ?_
              refine J_mono (w_iload_n C (jd jdt_Mo_teach 60 rfl) rfl) ?_
              refine J_mono (w_imul C (jd jdt_Mo_teach 61 rfl)) ?_
              refine J_mono (w_iadd C (jd jdt_Mo_teach 62 rfl)) ?_
              refine J_mono (w_iconst_1 C (jd jdt_Mo_teach 63 rfl)) ?_
              refine J_mono (w_iadd C (jd jdt_Mo_teach 64 rfl)) ?_
              refine J_mono (w_iload_n C (jd jdt_Mo_teach 65 rfl) rfl) ?_
              refine J_mono (w_iadd C (jd jdt_Mo_teach 66 rfl)) ?_
              refine J_mono (w_aload_n C (jd jdt_Mo_teach 67 rfl) rfl) ?_
              refine J_mono (jg_Mo_106 C hy0 (jd jdt_Mo_teach 68 rfl)) ?_
              refine J_mono (w_iload_n C (jd jdt_Mo_teach 69 rfl) rfl) ?_
              refine J_bind (fun v14 hv14 => ?_)
              refine J_mono (w_iald C (jkf_12_43 hy0) hv14 (jd jdt_Mo_teach 70 rfl)) ?_
              refine J_bind (fun M15 hM15 => ?_)
              refine J_mono (w_iast C F (jkf_12_36 hy0) hM15 (jd jdt_Mo_teach 71 rfl)) ?_
              refine J_mono (w_iinc (v := x2 + 1) (ls' := [some (.ref y0), some (.int y1), some (.int (x2 + 1))]) C (jd jdt_Mo_teach 72 rfl) rfl rfl (by decide) rfl rfl) ?_
              refine J_mono (w_goto C (jd jdt_Mo_teach 73 rfl) rfl) ?_
              exact J_sub (ih (x2 + 1) M15) ⟨rfl, rfl, rfl, trivial⟩
            · exact J_some (fun hx => Wk_sb hx ⟨rfl, trivial⟩)
        refine J_seq (fun (q16 : SM) => Wk p l e R s m args below meth c G 3 Q 0 0 jN0 (jce G q16) 132 [some (.ref a0), none, none] []) (J_sub (L95 a0 a1 hp0 jfuel 0 M12) ⟨rfl, rfl, rfl, trivial⟩) (fun q16 hq16 => ?_)
        refine J_mono (w_aload_n C (jd jdt_Mo_teach 74 rfl) rfl) ?_
        refine J_bind (fun q17 hq17 => ?_)
        refine J_mono (jc_Mo_377 C hp0 (C_Mo_plays l G F a0 hp0 q16 hq17) rfl (Nat.le_trans (Nat.le_of_ble_eq_true rfl : 5 + 1 ≤ 8) hD) (jd jdt_Mo_teach 75 rfl)) ?_
        refine J_mono (w_aload_n C (jd jdt_Mo_teach 76 rfl) rfl) ?_
        refine J_mono (jg_Mo_287 C hp0 (jd jdt_Mo_teach 77 rfl)) ?_
        exact J_some (fun hx => hR (q17.1 a0 44) q17 hx _ _ (jd jdt_Mo_teach 78 rfl) rfl)
      · refine J_mono (w_iconst_m1 C (jd jdt_Mo_teach 36 rfl)) ?_
        exact J_some (fun hx => hR (-1) (sI (sI q5 a0 7 (q5.1 a0 5)) a0 8 ((sI q5 a0 7 (q5.1 a0 5)).1 a0 6)) hx _ _ (jd jdt_Mo_teach 37 rfl) rfl)
end
theorem C_Mo_teach (l : Launch) (G : JG) (F : jF G = false) (a0 : Nat) (a1 : Int32) (hp0 : jkd a0 12) (M : SM) {q : (Int32 × SM)} (hf : f_Mo_teach a0 a1 M = some q) : jMet l jy_Mo_teach jb_Mo_teach 3 (some FieldType.int) 8 0 0 G [.ref a0, .int a1] jN0 (jce G M) (some (.int q.1)) jN0 (jce G q.2) :=
  j_met jo_Mo_teach (by decide) (Nat.le_of_ble_eq_true rfl) (fun p e s m args below meth c C hr hm => K_Mo_teach C F (Nat.le_refl _) a0 a1 hp0 M (fun t => t = q) (fun v M' hX pc ls hd hn => by cases hX; exact w_iret C hr hn hd) _ hf rfl)
def lp_Mo_bits_4  : Nat → Int32 → Int32 → Option (Int32)
  | 0, _, _ => none
  | n + 1, x1, x2 => if x2 = 0 then (some x1) else (lp_Mo_bits_4 n (x1 + 1) (x2 &&& (x2 - 1)))
def f_Mo_bits (a0 : Int32) : Option Int32 := (lp_Mo_bits_4 jfuel 0 a0).bind fun q2 => some q2
section
variable {p : Program} {l : Launch} {e : Env} {R : Room} {s : State} {m : MethodId} {args : Array Value} {below : List Frame} {meth : Method} {c : Code} {G : JG} {D : Nat} {Q : State → Prop}
set_option maxHeartbeats 4000000 in
set_option maxRecDepth 20000 in
theorem K_Mo_bits (C : jCx p R s m args meth c G jb_Mo_bits 3 D "SluicePitModel") (F : jF G = false) (hD : 1 ≤ D) (a0 : Int32)  (M : SM) (X : Int32 → Prop) (hR : ∀ v, X v → ∀ (pc : Nat) (ls : List (Option Value)), decode jb_Mo_bits pc = .ok (.ireturn, 1) → narrow FieldType.int (.int v) = .int v → Wk p l e R s m args below meth c G 3 Q 0 0 jN0 (jce G M) pc ls [.int v]) : J X (f_Mo_bits a0) (Wk p l e R s m args below meth c G 3 Q 0 0 jN0 (jce G M) 0 [some (.int a0), none, none] []) := by
  unfold f_Mo_bits
  refine J_mono (w_iconst_0 C (jd jdt_Mo_bits 0 rfl)) ?_
  refine J_mono (w_istore_n (ls' := [some (.int a0), some (.int 0), none]) C (jd jdt_Mo_bits 1 rfl) (by decide) rfl rfl) ?_
  refine J_mono (w_iload_n C (jd jdt_Mo_bits 2 rfl) rfl) ?_
  refine J_mono (w_istore_n (ls' := [some (.int a0), some (.int 0), some (.int a0)]) C (jd jdt_Mo_bits 3 rfl) (by decide) rfl rfl) ?_
  have L4 : ∀ (n : Nat) (x1 : Int32) (x2 : Int32), J (fun (q2 : Int32) => Wk p l e R s m args below meth c G 3 Q 0 0 jN0 (jce G M) 20 [none, some (.int q2), none] []) (lp_Mo_bits_4 n x1 x2) (Wk p l e R s m args below meth c G 3 Q 0 0 jN0 (jce G M) 4 [none, some (.int x1), some (.int x2)] []) := by
    intro n
    induction n with
    | zero => intro x1 x2; exact J_none
    | succ n ih =>
      intro x1 x2
      unfold lp_Mo_bits_4
      refine J_mono (w_iload_n C (jd jdt_Mo_bits 4 rfl) rfl) ?_
      refine J_br (w_if_eq (y := 0) C (jd jdt_Mo_bits 5 rfl) rfl) (fun h1 => J_pos h1 ?_) (fun h1 => J_neg h1 ?_)
      · exact J_some (fun hx => Wk_sb hx ⟨rfl, trivial⟩)
      · refine J_mono (w_iinc (v := x1 + 1) (ls' := [none, some (.int (x1 + 1)), some (.int x2)]) C (jd jdt_Mo_bits 6 rfl) rfl rfl (by decide) rfl rfl) ?_
        refine J_mono (w_iload_n C (jd jdt_Mo_bits 7 rfl) rfl) ?_
        refine J_mono (w_iload_n C (jd jdt_Mo_bits 8 rfl) rfl) ?_
        refine J_mono (w_iconst_1 C (jd jdt_Mo_bits 9 rfl)) ?_
        refine J_mono (w_isub C (jd jdt_Mo_bits 10 rfl)) ?_
        refine J_mono (w_iand C (jd jdt_Mo_bits 11 rfl)) ?_
        refine J_mono (w_istore_n (ls' := [none, some (.int (x1 + 1)), some (.int (x2 &&& (x2 - 1)))]) C (jd jdt_Mo_bits 12 rfl) (by decide) rfl rfl) ?_
        refine J_mono (w_goto C (jd jdt_Mo_bits 13 rfl) rfl) ?_
        exact J_sub (ih (x1 + 1) (x2 &&& (x2 - 1))) ⟨rfl, rfl, trivial⟩
  refine J_seq (fun (q2 : Int32) => Wk p l e R s m args below meth c G 3 Q 0 0 jN0 (jce G M) 20 [none, some (.int q2), none] []) (J_sub (L4 jfuel 0 a0) ⟨rfl, rfl, trivial⟩) (fun q2 hq2 => ?_)
  refine J_mono (w_iload_n C (jd jdt_Mo_bits 14 rfl) rfl) ?_
  exact J_some (fun hx => hR q2 hx _ _ (jd jdt_Mo_bits 15 rfl) rfl)
end
theorem C_Mo_bits (l : Launch) (G : JG) (F : jF G = false) (a0 : Int32)  (M : SM) {q : Int32} (hf : f_Mo_bits a0 = some q) : jMet l jy_Mo_bits jb_Mo_bits 3 (some FieldType.int) 1 0 0 G [.int a0] jN0 (jce G M) (some (.int q)) jN0 (jce G M) :=
  j_met jo_Mo_bits (by decide) (Nat.le_of_ble_eq_true rfl) (fun p e s m args below meth c C hr hm => K_Mo_bits C F (Nat.le_refl _) a0  M (fun t => t = q) (fun v hX pc ls hd hn => by cases hX; exact w_iret C hr hn hd) _ hf rfl)
def lp_Mo_goesTo_6 (y0 : Nat) (y1 : Int32) : Nat → Int32 → SM → Option (SM)
  | 0, _, _ => none
  | n + 1, x2, M => if y1 < x2 then (some M) else ((f_Mo_goes y0 x2 M).bind fun q3 => lp_Mo_goesTo_6 y0 y1 n (x2 + 1) q3)
def f_Mo_goesTo (a0 : Nat) (a1 : Int32) (M : SM) : Option SM := (f_Mo_begins a0 M).bind fun q1 => (lp_Mo_goesTo_6 a0 a1 jfuel 1 q1).bind fun q4 => some q4
section
variable {p : Program} {l : Launch} {e : Env} {R : Room} {s : State} {m : MethodId} {args : Array Value} {below : List Frame} {meth : Method} {c : Code} {G : JG} {D : Nat} {Q : State → Prop}
set_option maxHeartbeats 4000000 in
set_option maxRecDepth 20000 in
theorem K_Mo_goesTo (C : jCx p R s m args meth c G jb_Mo_goesTo 3 D "SluicePitModel") (F : jF G = false) (hD : 5 ≤ D) (a0 : Nat) (a1 : Int32) (hp0 : jkd a0 12) (M : SM) (X : SM → Prop) (hR : ∀ M', X M' → ∀ (pc : Nat) (ls : List (Option Value)), decode jb_Mo_goesTo pc = .ok (.return_, 1) → Wk p l e R s m args below meth c G 3 Q 0 0 jN0 (jce G M') pc ls []) : J X (f_Mo_goesTo a0 a1 M) (Wk p l e R s m args below meth c G 3 Q 0 0 jN0 (jce G M) 0 [some (.ref a0), some (.int a1), none] []) := by
  unfold f_Mo_goesTo
  refine J_mono (w_aload_n C (jd jdt_Mo_goesTo 0 rfl) rfl) ?_
  refine J_bind (fun q1 hq1 => ?_)
  refine J_mono (jc_Mo_428 C hp0 (C_Mo_begins l G F a0 hp0 M hq1) rfl (Nat.le_trans (Nat.le_of_ble_eq_true rfl : 1 + 1 ≤ 5) hD) (jd jdt_Mo_goesTo 1 rfl)) ?_
  refine J_mono (w_iconst_1 C (jd jdt_Mo_goesTo 2 rfl)) ?_
  refine J_mono (w_istore_n (ls' := [some (.ref a0), some (.int a1), some (.int 1)]) C (jd jdt_Mo_goesTo 3 rfl) (by decide) rfl rfl) ?_
  have L6 : ∀ (y0 : Nat) (y1 : Int32) (hy0 : jkd y0 12) (n : Nat) (x2 : Int32) (M : SM), J (fun (q4 : SM) => Wk p l e R s m args below meth c G 3 Q 0 0 jN0 (jce G q4) 22 [none, none, none] []) (lp_Mo_goesTo_6 y0 y1 n x2 M) (Wk p l e R s m args below meth c G 3 Q 0 0 jN0 (jce G M) 6 [some (.ref y0), some (.int y1), some (.int x2)] []) := by
    intro y0 y1 hy0 n
    induction n with
    | zero => intro x2 M; exact J_none
    | succ n ih =>
      intro x2 M
      unfold lp_Mo_goesTo_6
      refine J_mono (w_iload_n C (jd jdt_Mo_goesTo 4 rfl) rfl) ?_
      refine J_mono (w_iload_n C (jd jdt_Mo_goesTo 5 rfl) rfl) ?_
      refine J_br (w_icmp_gt C (jd jdt_Mo_goesTo 6 rfl) rfl) (fun h2 => J_pos h2 ?_) (fun h2 => J_neg h2 ?_)
      · exact J_some (fun hx => Wk_sb hx trivial)
      · refine J_mono (w_aload_n C (jd jdt_Mo_goesTo 7 rfl) rfl) ?_
        refine J_mono (w_iload_n C (jd jdt_Mo_goesTo 8 rfl) rfl) ?_
        refine J_bind (fun q3 hq3 => ?_)
        refine J_mono (jc_Mo_431 C hy0 (C_Mo_goes l G F y0 x2 hy0 M hq3) rfl (Nat.le_trans (Nat.le_of_ble_eq_true rfl : 4 + 1 ≤ 5) hD) (jd jdt_Mo_goesTo 9 rfl)) ?_
        refine J_mono (w_iinc (v := x2 + 1) (ls' := [some (.ref y0), some (.int y1), some (.int (x2 + 1))]) C (jd jdt_Mo_goesTo 10 rfl) rfl rfl (by decide) rfl rfl) ?_
        refine J_mono (w_goto C (jd jdt_Mo_goesTo 11 rfl) rfl) ?_
        exact J_sub (ih (x2 + 1) q3) ⟨rfl, rfl, rfl, trivial⟩
  refine J_seq (fun (q4 : SM) => Wk p l e R s m args below meth c G 3 Q 0 0 jN0 (jce G q4) 22 [none, none, none] []) (J_sub (L6 a0 a1 hp0 jfuel 1 q1) ⟨rfl, rfl, rfl, trivial⟩) (fun q4 hq4 => ?_)
  exact J_some (fun hx => hR q4 hx _ _ (jd jdt_Mo_goesTo 12 rfl))
end
theorem C_Mo_goesTo (l : Launch) (G : JG) (F : jF G = false) (a0 : Nat) (a1 : Int32) (hp0 : jkd a0 12) (M : SM) {q : SM} (hf : f_Mo_goesTo a0 a1 M = some q) : jMet l jy_Mo_goesTo jb_Mo_goesTo 3 none 5 0 0 G [.ref a0, .int a1] jN0 (jce G M) none jN0 (jce G q) :=
  j_met jo_Mo_goesTo (by decide) (Nat.le_of_ble_eq_true rfl) (fun p e s m args below meth c C hr hm => K_Mo_goesTo C F (Nat.le_refl _) a0 a1 hp0 M (fun t => t = q) (fun M' hX pc ls hd => by cases hX; exact w_vret C hr hd) _ hf rfl)
def f_Mo_isSo (a0 : Nat) (a1 : Int32) (a2 : Int32) (a3 : Int32) (M : SM) : Option (Int32 × SM) := (f_Mo_goesTo a0 a2 M).bind fun q1 => if a3 = 0 then ((aI q1 (jpf a0 53) a1).bind fun v3 => if v3 = ((q1.1 a0 31) - 1) then (some (1, q1)) else (some (0, q1))) else ((aI q1 (jpf a0 53) a1).bind fun v5 => (aI q1 (jpf a0 52) v5).bind fun v6 => (f_Mo_draftOf a0 a1 q1).bind fun q7 => if v6 < q7 then (some (1, q1)) else (some (0, q1)))
section
variable {p : Program} {l : Launch} {e : Env} {R : Room} {s : State} {m : MethodId} {args : Array Value} {below : List Frame} {meth : Method} {c : Code} {G : JG} {D : Nat} {Q : State → Prop}
set_option maxHeartbeats 4000000 in
set_option maxRecDepth 20000 in
theorem K_Mo_isSo (C : jCx p R s m args meth c G jb_Mo_isSo 4 D "SluicePitModel") (F : jF G = false) (hD : 6 ≤ D) (a0 : Nat) (a1 : Int32) (a2 : Int32) (a3 : Int32) (hp0 : jkd a0 12) (M : SM) (X : (Int32 × SM) → Prop) (hR : ∀ v M', X (v, M') → ∀ (pc : Nat) (ls : List (Option Value)), decode jb_Mo_isSo pc = .ok (.ireturn, 1) → narrow FieldType.boolean (.int v) = .int v → Wk p l e R s m args below meth c G 4 Q 0 0 jN0 (jce G M') pc ls [.int v]) : J X (f_Mo_isSo a0 a1 a2 a3 M) (Wk p l e R s m args below meth c G 4 Q 0 0 jN0 (jce G M) 0 [some (.ref a0), some (.int a1), some (.int a2), some (.int a3)] []) := by
  unfold f_Mo_isSo
  refine J_mono (w_aload_n C (jd jdt_Mo_isSo 0 rfl) rfl) ?_
  refine J_mono (w_iload_n C (jd jdt_Mo_isSo 1 rfl) rfl) ?_
  refine J_bind (fun q1 hq1 => ?_)
  refine J_mono (jc_Mo_476 C hp0 (C_Mo_goesTo l G F a0 a2 hp0 M hq1) rfl (Nat.le_trans (Nat.le_of_ble_eq_true rfl : 5 + 1 ≤ 6) hD) (jd jdt_Mo_isSo 2 rfl)) ?_
  refine J_mono (w_iload_n C (jd jdt_Mo_isSo 3 rfl) rfl) ?_
  refine J_br (w_if_eq (y := 0) C (jd jdt_Mo_isSo 4 rfl) rfl) (fun h2 => J_pos h2 ?_) (fun h2 => J_neg h2 ?_)
  · refine J_mono (w_aload_n C (jd jdt_Mo_isSo 20 rfl) rfl) ?_
    refine J_mono (jg_Mo_121 C hp0 (jd jdt_Mo_isSo 21 rfl)) ?_
    refine J_mono (w_iload_n C (jd jdt_Mo_isSo 22 rfl) rfl) ?_
    refine J_bind (fun v3 hv3 => ?_)
    refine J_mono (w_iald C (jkf_12_53 hp0) hv3 (jd jdt_Mo_isSo 23 rfl)) ?_
    refine J_mono (w_aload_n C (jd jdt_Mo_isSo 24 rfl) rfl) ?_
    refine J_mono (jg_Mo_367 C hp0 (jd jdt_Mo_isSo 25 rfl)) ?_
    refine J_mono (w_iconst_1 C (jd jdt_Mo_isSo 26 rfl)) ?_
    refine J_mono (w_isub C (jd jdt_Mo_isSo 27 rfl)) ?_
    refine J_br (w_icmp_ne C (jd jdt_Mo_isSo 28 rfl) rfl) (fun h4 => J_pos h4 ?_) (fun h4 => J_neg h4 ?_)
    · refine J_mono (w_iconst_1 C (jd jdt_Mo_isSo 29 rfl)) ?_
      refine J_mono (w_goto C (jd jdt_Mo_isSo 30 rfl) rfl) ?_
      exact J_some (fun hx => hR 1 q1 hx _ _ (jd jdt_Mo_isSo 32 rfl) rfl)
    · refine J_mono (w_iconst_0 C (jd jdt_Mo_isSo 31 rfl)) ?_
      exact J_some (fun hx => hR 0 q1 hx _ _ (jd jdt_Mo_isSo 32 rfl) rfl)
  · refine J_mono (w_aload_n C (jd jdt_Mo_isSo 5 rfl) rfl) ?_
    refine J_mono (jg_Mo_118 C hp0 (jd jdt_Mo_isSo 6 rfl)) ?_
    refine J_mono (w_aload_n C (jd jdt_Mo_isSo 7 rfl) rfl) ?_
    refine J_mono (jg_Mo_121 C hp0 (jd jdt_Mo_isSo 8 rfl)) ?_
    refine J_mono (w_iload_n C (jd jdt_Mo_isSo 9 rfl) rfl) ?_
    refine J_bind (fun v5 hv5 => ?_)
    refine J_mono (w_iald C (jkf_12_53 hp0) hv5 (jd jdt_Mo_isSo 10 rfl)) ?_
    refine J_bind (fun v6 hv6 => ?_)
    refine J_mono (w_iald C (jkf_12_52 hp0) hv6 (jd jdt_Mo_isSo 11 rfl)) ?_
    refine J_mono (w_aload_n C (jd jdt_Mo_isSo 12 rfl) rfl) ?_
    refine J_mono (w_iload_n C (jd jdt_Mo_isSo 13 rfl) rfl) ?_
    refine J_bind (fun q7 hq7 => ?_)
    refine J_mono (jc_Mo_404 C hp0 (C_Mo_draftOf l G F a0 a1 hp0 q1 hq7) rfl (Nat.le_trans (Nat.le_of_ble_eq_true rfl : 1 + 1 ≤ 6) hD) (jd jdt_Mo_isSo 14 rfl)) ?_
    refine J_br (w_icmp_ge C (jd jdt_Mo_isSo 15 rfl) rfl) (fun h8 => J_pos h8 ?_) (fun h8 => J_neg h8 ?_)
    · refine J_mono (w_iconst_1 C (jd jdt_Mo_isSo 16 rfl)) ?_
      refine J_mono (w_goto C (jd jdt_Mo_isSo 17 rfl) rfl) ?_
      exact J_some (fun hx => hR 1 q1 hx _ _ (jd jdt_Mo_isSo 32 rfl) rfl)
    · refine J_mono (w_iconst_0 C (jd jdt_Mo_isSo 18 rfl)) ?_
      refine J_mono (w_goto C (jd jdt_Mo_isSo 19 rfl) rfl) ?_
      exact J_some (fun hx => hR 0 q1 hx _ _ (jd jdt_Mo_isSo 32 rfl) rfl)
end
theorem C_Mo_isSo (l : Launch) (G : JG) (F : jF G = false) (a0 : Nat) (a1 : Int32) (a2 : Int32) (a3 : Int32) (hp0 : jkd a0 12) (M : SM) {q : (Int32 × SM)} (hf : f_Mo_isSo a0 a1 a2 a3 M = some q) : jMet l jy_Mo_isSo jb_Mo_isSo 4 (some FieldType.boolean) 6 0 0 G [.ref a0, .int a1, .int a2, .int a3] jN0 (jce G M) (some (.int q.1)) jN0 (jce G q.2) :=
  j_met jo_Mo_isSo (by decide) (Nat.le_of_ble_eq_true rfl) (fun p e s m args below meth c C hr hm => K_Mo_isSo C F (Nat.le_refl _) a0 a1 a2 a3 hp0 M (fun t => t = q) (fun v M' hX pc ls hd hn => by cases hX; exact w_iret C hr hn hd) _ hf rfl)
def lp_Mo_leastSet_16 (y0 : Nat) (y1 : Int32) (y2 : Int32) (y3 : Int32) (y4 : Int32) : Nat → Int32 → Int32 → SM → Option (Int32 × SM)
  | 0, _, _, _ => none
  | n + 1, x5, x6, M => if y4 < x6 then (some (x5, M)) else ((if x5 = (-1) then ((if y3 = 0 then (some (y4 &&& (x6 ^^^ (-1)))) else (some x6) : Option (Int32)).bind fun q5 => (f_Mo_isSo y0 y1 y2 y3 (sI M y0 47 q5)).bind fun q7 => if q7.1 = 0 then (some (x5, q7.2)) else (some (x6, q7.2))) else ((f_Mo_bits x6).bind fun q9 => (f_Mo_bits x5).bind fun q10 => if q9 < q10 then ((if y3 = 0 then (some (y4 &&& (x6 ^^^ (-1)))) else (some x6) : Option (Int32)).bind fun q12 => (f_Mo_isSo y0 y1 y2 y3 (sI M y0 47 q12)).bind fun q14 => if q14.1 = 0 then (some (x5, q14.2)) else (some (x6, q14.2))) else (some (x5, M))) : Option (Int32 × SM)).bind fun q3 => lp_Mo_leastSet_16 y0 y1 y2 y3 y4 n q3.1 (x6 + 1) q3.2)
def f_Mo_leastSet (a0 : Nat) (a1 : Int32) (a2 : Int32) (a3 : Int32) (M : SM) : Option (Int32 × SM) := (f_Mo_deskMany a0 M).bind fun q1 => (lp_Mo_leastSet_16 a0 a1 a2 a3 ((1 <<< (q1 &&& 31)) - 1) jfuel (-1) 0 M).bind fun q16 => some (q16.1, sI q16.2 a0 47 0)
section
variable {p : Program} {l : Launch} {e : Env} {R : Room} {s : State} {m : MethodId} {args : Array Value} {below : List Frame} {meth : Method} {c : Code} {G : JG} {D : Nat} {Q : State → Prop}
set_option maxHeartbeats 4000000 in
set_option maxRecDepth 20000 in
theorem K_Mo_leastSet (C : jCx p R s m args meth c G jb_Mo_leastSet 7 D "SluicePitModel") (F : jF G = false) (hD : 7 ≤ D) (a0 : Nat) (a1 : Int32) (a2 : Int32) (a3 : Int32) (hp0 : jkd a0 12) (M : SM) (X : (Int32 × SM) → Prop) (hR : ∀ v M', X (v, M') → ∀ (pc : Nat) (ls : List (Option Value)), decode jb_Mo_leastSet pc = .ok (.ireturn, 1) → narrow FieldType.int (.int v) = .int v → Wk p l e R s m args below meth c G 7 Q 0 0 jN0 (jce G M') pc ls [.int v]) : J X (f_Mo_leastSet a0 a1 a2 a3 M) (Wk p l e R s m args below meth c G 7 Q 0 0 jN0 (jce G M) 0 [some (.ref a0), some (.int a1), some (.int a2), some (.int a3), none, none, none] []) := by
  unfold f_Mo_leastSet
  refine J_mono (w_iconst_1 C (jd jdt_Mo_leastSet 0 rfl)) ?_
  refine J_mono (w_aload_n C (jd jdt_Mo_leastSet 1 rfl) rfl) ?_
  refine J_bind (fun q1 hq1 => ?_)
  refine J_mono (jc_Mo_380 C hp0 (C_Mo_deskMany l G F a0 hp0 M hq1) rfl (Nat.le_trans (Nat.le_of_ble_eq_true rfl : 1 + 1 ≤ 7) hD) (jd jdt_Mo_leastSet 2 rfl)) ?_
  refine J_mono (w_ishl C (jd jdt_Mo_leastSet 3 rfl)) ?_
  refine J_mono (w_iconst_1 C (jd jdt_Mo_leastSet 4 rfl)) ?_
  refine J_mono (w_isub C (jd jdt_Mo_leastSet 5 rfl)) ?_
  refine J_mono (w_istore (ls' := [some (.ref a0), some (.int a1), some (.int a2), some (.int a3), some (.int ((1 <<< (q1 &&& 31)) - 1)), none, none]) C (jd jdt_Mo_leastSet 6 rfl) (by decide) rfl rfl) ?_
  refine J_mono (w_iconst_m1 C (jd jdt_Mo_leastSet 7 rfl)) ?_
  refine J_mono (w_istore (ls' := [some (.ref a0), some (.int a1), some (.int a2), some (.int a3), some (.int ((1 <<< (q1 &&& 31)) - 1)), some (.int (-1)), none]) C (jd jdt_Mo_leastSet 8 rfl) (by decide) rfl rfl) ?_
  refine J_mono (w_iconst_0 C (jd jdt_Mo_leastSet 9 rfl)) ?_
  refine J_mono (w_istore (ls' := [some (.ref a0), some (.int a1), some (.int a2), some (.int a3), some (.int ((1 <<< (q1 &&& 31)) - 1)), some (.int (-1)), some (.int 0)]) C (jd jdt_Mo_leastSet 10 rfl) (by decide) rfl rfl) ?_
  have L16 : ∀ (y0 : Nat) (y1 : Int32) (y2 : Int32) (y3 : Int32) (y4 : Int32) (hy0 : jkd y0 12) (n : Nat) (x5 : Int32) (x6 : Int32) (M : SM), J (fun (q16 : Int32 × SM) => Wk p l e R s m args below meth c G 7 Q 0 0 jN0 (jce G q16.2) 85 [some (.ref y0), none, none, none, none, some (.int q16.1), none] []) (lp_Mo_leastSet_16 y0 y1 y2 y3 y4 n x5 x6 M) (Wk p l e R s m args below meth c G 7 Q 0 0 jN0 (jce G M) 16 [some (.ref y0), some (.int y1), some (.int y2), some (.int y3), some (.int y4), some (.int x5), some (.int x6)] []) := by
    intro y0 y1 y2 y3 y4 hy0 n
    induction n with
    | zero => intro x5 x6 M; exact J_none
    | succ n ih =>
      intro x5 x6 M
      unfold lp_Mo_leastSet_16
      refine J_mono (w_iload C (jd jdt_Mo_leastSet 11 rfl) rfl) ?_
      refine J_mono (w_iload C (jd jdt_Mo_leastSet 12 rfl) rfl) ?_
      refine J_br (w_icmp_gt C (jd jdt_Mo_leastSet 13 rfl) rfl) (fun h2 => J_pos h2 ?_) (fun h2 => J_neg h2 ?_)
      · exact J_some (fun hx => Wk_sb hx ⟨rfl, rfl, trivial⟩)
      · refine J_mono (w_iload C (jd jdt_Mo_leastSet 14 rfl) rfl) ?_
        refine J_mono (w_iconst_m1 C (jd jdt_Mo_leastSet 15 rfl)) ?_
        refine J_seq (fun (q3 : Int32 × SM) => Wk p l e R s m args below meth c G 7 Q 0 0 jN0 (jce G q3.2) 79 [some (.ref y0), some (.int y1), some (.int y2), some (.int y3), some (.int y4), some (.int q3.1), some (.int x6)] []) ?_ (fun q3 hq3 => ?_)
        · refine J_br (w_icmp_eq C (jd jdt_Mo_leastSet 16 rfl) rfl) (fun h4 => J_pos h4 ?_) (fun h4 => J_neg h4 ?_)
          · refine J_mono (w_aload_n C (jd jdt_Mo_leastSet 23 rfl) rfl) ?_
            refine J_mono (w_iload_n C (jd jdt_Mo_leastSet 24 rfl) rfl) ?_
            refine J_seq (fun (q5 : Int32) => Wk p l e R s m args below meth c G 7 Q 0 0 jN0 (jce G M) 62 [some (.ref y0), some (.int y1), some (.int y2), some (.int y3), some (.int y4), some (.int x5), some (.int x6)] [.int q5, .ref y0]) ?_ (fun q5 hq5 => ?_)
            · refine J_br (w_if_eq (y := 0) C (jd jdt_Mo_leastSet 25 rfl) rfl) (fun h6 => J_pos h6 ?_) (fun h6 => J_neg h6 ?_)
              · refine J_mono (w_iload C (jd jdt_Mo_leastSet 28 rfl) rfl) ?_
                refine J_mono (w_iload C (jd jdt_Mo_leastSet 29 rfl) rfl) ?_
                refine J_mono (w_iconst_m1 C (jd jdt_Mo_leastSet 30 rfl)) ?_
                refine J_mono (w_ixor C (jd jdt_Mo_leastSet 31 rfl)) ?_
                refine J_mono (w_iand C (jd jdt_Mo_leastSet 32 rfl)) ?_
                exact J_some (fun hx => Wk_sb hx ⟨rfl, rfl, rfl, rfl, rfl, rfl, rfl, trivial⟩)
              · refine J_mono (w_iload C (jd jdt_Mo_leastSet 26 rfl) rfl) ?_
                refine J_mono (w_goto C (jd jdt_Mo_leastSet 27 rfl) rfl) ?_
                exact J_some (fun hx => Wk_sb hx ⟨rfl, rfl, rfl, rfl, rfl, rfl, rfl, trivial⟩)
            · refine J_mono (jp_Mo_386 C F hy0 (jd jdt_Mo_leastSet 33 rfl)) ?_
              refine J_mono (w_aload_n C (jd jdt_Mo_leastSet 34 rfl) rfl) ?_
              refine J_mono (w_iload_n C (jd jdt_Mo_leastSet 35 rfl) rfl) ?_
              refine J_mono (w_iload_n C (jd jdt_Mo_leastSet 36 rfl) rfl) ?_
              refine J_mono (w_iload_n C (jd jdt_Mo_leastSet 37 rfl) rfl) ?_
              refine J_bind (fun q7 hq7 => ?_)
              refine J_mono (jc_Mo_482 C hy0 (C_Mo_isSo l G F y0 y1 y2 y3 hy0 (sI M y0 47 q5) hq7) rfl (Nat.le_trans (Nat.le_of_ble_eq_true rfl : 6 + 1 ≤ 7) hD) (jd jdt_Mo_leastSet 38 rfl)) ?_
              refine J_br (w_if_eq (y := 0) C (jd jdt_Mo_leastSet 39 rfl) rfl) (fun h8 => J_pos h8 ?_) (fun h8 => J_neg h8 ?_)
              · exact J_some (fun hx => Wk_sb hx ⟨rfl, rfl, rfl, rfl, rfl, rfl, rfl, trivial⟩)
              · refine J_mono (w_iload C (jd jdt_Mo_leastSet 40 rfl) rfl) ?_
                refine J_mono (w_istore (ls' := [some (.ref y0), some (.int y1), some (.int y2), some (.int y3), some (.int y4), some (.int x6), some (.int x6)]) C (jd jdt_Mo_leastSet 41 rfl) (by decide) rfl rfl) ?_
                exact J_some (fun hx => Wk_sb hx ⟨rfl, rfl, rfl, rfl, rfl, rfl, rfl, trivial⟩)
          · refine J_mono (w_iload C (jd jdt_Mo_leastSet 17 rfl) rfl) ?_
            refine J_bind (fun q9 hq9 => ?_)
            refine J_mono (jc_Mo_479 C (C_Mo_bits l G F x6 M hq9) rfl (Nat.le_trans (Nat.le_of_ble_eq_true rfl : 1 + 1 ≤ 7) hD) (jd jdt_Mo_leastSet 18 rfl)) ?_
            refine J_mono (w_iload C (jd jdt_Mo_leastSet 19 rfl) rfl) ?_
            refine J_bind (fun q10 hq10 => ?_)
            refine J_mono (jc_Mo_479 C (C_Mo_bits l G F x5 M hq10) rfl (Nat.le_trans (Nat.le_of_ble_eq_true rfl : 1 + 1 ≤ 7) hD) (jd jdt_Mo_leastSet 20 rfl)) ?_
            refine J_br (w_icmp_lt C (jd jdt_Mo_leastSet 21 rfl) rfl) (fun h11 => J_pos h11 ?_) (fun h11 => J_neg h11 ?_)
            · refine J_mono (w_aload_n C (jd jdt_Mo_leastSet 23 rfl) rfl) ?_
              refine J_mono (w_iload_n C (jd jdt_Mo_leastSet 24 rfl) rfl) ?_
              refine J_seq (fun (q12 : Int32) => Wk p l e R s m args below meth c G 7 Q 0 0 jN0 (jce G M) 62 [some (.ref y0), some (.int y1), some (.int y2), some (.int y3), some (.int y4), some (.int x5), some (.int x6)] [.int q12, .ref y0]) ?_ (fun q12 hq12 => ?_)
              · refine J_br (w_if_eq (y := 0) C (jd jdt_Mo_leastSet 25 rfl) rfl) (fun h13 => J_pos h13 ?_) (fun h13 => J_neg h13 ?_)
                · refine J_mono (w_iload C (jd jdt_Mo_leastSet 28 rfl) rfl) ?_
                  refine J_mono (w_iload C (jd jdt_Mo_leastSet 29 rfl) rfl) ?_
                  refine J_mono (w_iconst_m1 C (jd jdt_Mo_leastSet 30 rfl)) ?_
                  refine J_mono (w_ixor C (jd jdt_Mo_leastSet 31 rfl)) ?_
                  refine J_mono (w_iand C (jd jdt_Mo_leastSet 32 rfl)) ?_
                  exact J_some (fun hx => Wk_sb hx ⟨rfl, rfl, rfl, rfl, rfl, rfl, rfl, trivial⟩)
                · refine J_mono (w_iload C (jd jdt_Mo_leastSet 26 rfl) rfl) ?_
                  refine J_mono (w_goto C (jd jdt_Mo_leastSet 27 rfl) rfl) ?_
                  exact J_some (fun hx => Wk_sb hx ⟨rfl, rfl, rfl, rfl, rfl, rfl, rfl, trivial⟩)
              · refine J_mono (jp_Mo_386 C F hy0 (jd jdt_Mo_leastSet 33 rfl)) ?_
                refine J_mono (w_aload_n C (jd jdt_Mo_leastSet 34 rfl) rfl) ?_
                refine J_mono (w_iload_n C (jd jdt_Mo_leastSet 35 rfl) rfl) ?_
                refine J_mono (w_iload_n C (jd jdt_Mo_leastSet 36 rfl) rfl) ?_
                refine J_mono (w_iload_n C (jd jdt_Mo_leastSet 37 rfl) rfl) ?_
                refine J_bind (fun q14 hq14 => ?_)
                refine J_mono (jc_Mo_482 C hy0 (C_Mo_isSo l G F y0 y1 y2 y3 hy0 (sI M y0 47 q12) hq14) rfl (Nat.le_trans (Nat.le_of_ble_eq_true rfl : 6 + 1 ≤ 7) hD) (jd jdt_Mo_leastSet 38 rfl)) ?_
                refine J_br (w_if_eq (y := 0) C (jd jdt_Mo_leastSet 39 rfl) rfl) (fun h15 => J_pos h15 ?_) (fun h15 => J_neg h15 ?_)
                · exact J_some (fun hx => Wk_sb hx ⟨rfl, rfl, rfl, rfl, rfl, rfl, rfl, trivial⟩)
                · refine J_mono (w_iload C (jd jdt_Mo_leastSet 40 rfl) rfl) ?_
                  refine J_mono (w_istore (ls' := [some (.ref y0), some (.int y1), some (.int y2), some (.int y3), some (.int y4), some (.int x6), some (.int x6)]) C (jd jdt_Mo_leastSet 41 rfl) (by decide) rfl rfl) ?_
                  exact J_some (fun hx => Wk_sb hx ⟨rfl, rfl, rfl, rfl, rfl, rfl, rfl, trivial⟩)
            · refine J_mono (w_goto C (jd jdt_Mo_leastSet 22 rfl) rfl) ?_
              exact J_some (fun hx => Wk_sb hx ⟨rfl, rfl, rfl, rfl, rfl, rfl, rfl, trivial⟩)
        · refine J_mono (w_iinc (v := x6 + 1) (ls' := [some (.ref y0), some (.int y1), some (.int y2), some (.int y3), some (.int y4), some (.int q3.1), some (.int (x6 + 1))]) C (jd jdt_Mo_leastSet 42 rfl) rfl rfl (by decide) rfl rfl) ?_
          refine J_mono (w_goto C (jd jdt_Mo_leastSet 43 rfl) rfl) ?_
          exact J_sub (ih q3.1 (x6 + 1) q3.2) ⟨rfl, rfl, rfl, rfl, rfl, rfl, rfl, trivial⟩
  refine J_seq (fun (q16 : Int32 × SM) => Wk p l e R s m args below meth c G 7 Q 0 0 jN0 (jce G q16.2) 85 [some (.ref a0), none, none, none, none, some (.int q16.1), none] []) (J_sub (L16 a0 a1 a2 a3 ((1 <<< (q1 &&& 31)) - 1) hp0 jfuel (-1) 0 M) ⟨rfl, rfl, rfl, rfl, rfl, rfl, rfl, trivial⟩) (fun q16 hq16 => ?_)
  refine J_mono (w_aload_n C (jd jdt_Mo_leastSet 44 rfl) rfl) ?_
  refine J_mono (w_iconst_0 C (jd jdt_Mo_leastSet 45 rfl)) ?_
  refine J_mono (jp_Mo_386 C F hp0 (jd jdt_Mo_leastSet 46 rfl)) ?_
  refine J_mono (w_iload C (jd jdt_Mo_leastSet 47 rfl) rfl) ?_
  exact J_some (fun hx => hR q16.1 (sI q16.2 a0 47 0) hx _ _ (jd jdt_Mo_leastSet 48 rfl) rfl)
end
theorem C_Mo_leastSet (l : Launch) (G : JG) (F : jF G = false) (a0 : Nat) (a1 : Int32) (a2 : Int32) (a3 : Int32) (hp0 : jkd a0 12) (M : SM) {q : (Int32 × SM)} (hf : f_Mo_leastSet a0 a1 a2 a3 M = some q) : jMet l jy_Mo_leastSet jb_Mo_leastSet 7 (some FieldType.int) 7 0 0 G [.ref a0, .int a1, .int a2, .int a3] jN0 (jce G M) (some (.int q.1)) jN0 (jce G q.2) :=
  j_met jo_Mo_leastSet (by decide) (Nat.le_of_ble_eq_true rfl) (fun p e s m args below meth c C hr hm => K_Mo_leastSet C F (Nat.le_refl _) a0 a1 a2 a3 hp0 M (fun t => t = q) (fun v M' hX pc ls hd hn => by cases hX; exact w_iret C hr hn hd) _ hf rfl)
def f_Mo_setTold (a0 : Nat) (a1 : Int32) (a2 : Int32) (a3 : Int32) (a4 : Int32) (M : SM) : Option (Int32 × SM) := (f_Mo_isBoat a0 a1 M).bind fun q1 => if q1 = 0 then (some ((-1), M)) else ((f_Mo_isBar a2).bind fun q3 => if q3 = 0 then (some ((-1), M)) else ((f_Mo_isIn a3.toInt64 0 1).bind fun q5 => if q5 = 0 then (some ((-1), M)) else ((f_Mo_leastSet a0 a1 a2 a4 M).bind fun q7 => if q7.1 = (-1) then (some ((-1), q7.2)) else (if a3 = 0 then ((f_Mo_bits q7.1).bind fun q10 => some (q10, q7.2)) else (some (q7.1, q7.2))))))
section
variable {p : Program} {l : Launch} {e : Env} {R : Room} {s : State} {m : MethodId} {args : Array Value} {below : List Frame} {meth : Method} {c : Code} {G : JG} {D : Nat} {Q : State → Prop}
set_option maxHeartbeats 4000000 in
set_option maxRecDepth 20000 in
theorem K_Mo_setTold (C : jCx p R s m args meth c G jb_Mo_setTold 6 D "SluicePitModel") (F : jF G = false) (hD : 8 ≤ D) (a0 : Nat) (a1 : Int32) (a2 : Int32) (a3 : Int32) (a4 : Int32) (hp0 : jkd a0 12) (M : SM) (X : (Int32 × SM) → Prop) (hR : ∀ v M', X (v, M') → ∀ (pc : Nat) (ls : List (Option Value)), decode jb_Mo_setTold pc = .ok (.ireturn, 1) → narrow FieldType.int (.int v) = .int v → Wk p l e R s m args below meth c G 6 Q 0 0 jN0 (jce G M') pc ls [.int v]) : J X (f_Mo_setTold a0 a1 a2 a3 a4 M) (Wk p l e R s m args below meth c G 6 Q 0 0 jN0 (jce G M) 0 [some (.ref a0), some (.int a1), some (.int a2), some (.int a3), some (.int a4), none] []) := by
  unfold f_Mo_setTold
  refine J_mono (w_aload_n C (jd jdt_Mo_setTold 0 rfl) rfl) ?_
  refine J_mono (w_iload_n C (jd jdt_Mo_setTold 1 rfl) rfl) ?_
  refine J_bind (fun q1 hq1 => ?_)
  refine J_mono (jc_Mo_463 C hp0 (C_Mo_isBoat l G F a0 a1 hp0 M hq1) rfl (Nat.le_trans (Nat.le_of_ble_eq_true rfl : 2 + 1 ≤ 8) hD) (jd jdt_Mo_setTold 2 rfl)) ?_
  refine J_br (w_if_eq (y := 0) C (jd jdt_Mo_setTold 3 rfl) rfl) (fun h2 => J_pos h2 ?_) (fun h2 => J_neg h2 ?_)
  · refine J_mono (w_iconst_m1 C (jd jdt_Mo_setTold 13 rfl)) ?_
    exact J_some (fun hx => hR (-1) M hx _ _ (jd jdt_Mo_setTold 14 rfl) rfl)
  · refine J_mono (w_iload_n C (jd jdt_Mo_setTold 4 rfl) rfl) ?_
    refine J_bind (fun q3 hq3 => ?_)
    refine J_mono (jc_Mo_460 C (C_Mo_isBar l G F a2 M hq3) rfl (Nat.le_trans (Nat.le_of_ble_eq_true rfl : 2 + 1 ≤ 8) hD) (jd jdt_Mo_setTold 5 rfl)) ?_
    refine J_br (w_if_eq (y := 0) C (jd jdt_Mo_setTold 6 rfl) rfl) (fun h4 => J_pos h4 ?_) (fun h4 => J_neg h4 ?_)
    · refine J_mono (w_iconst_m1 C (jd jdt_Mo_setTold 13 rfl)) ?_
      exact J_some (fun hx => hR (-1) M hx _ _ (jd jdt_Mo_setTold 14 rfl) rfl)
    · refine J_mono (w_iload_n C (jd jdt_Mo_setTold 7 rfl) rfl) ?_
      refine J_mono (w_i2l C (jd jdt_Mo_setTold 8 rfl)) ?_
      refine J_mono (w_lconst_0 C (jd jdt_Mo_setTold 9 rfl)) ?_
      refine J_mono (w_lconst_1 C (jd jdt_Mo_setTold 10 rfl)) ?_
      refine J_bind (fun q5 hq5 => ?_)
      refine J_mono (jc_Mo_261 C (C_Mo_isIn l G F a3.toInt64 0 1 M hq5) rfl (Nat.le_trans (Nat.le_of_ble_eq_true rfl : 1 + 1 ≤ 8) hD) (jd jdt_Mo_setTold 11 rfl)) ?_
      refine J_br (w_if_ne (y := 0) C (jd jdt_Mo_setTold 12 rfl) rfl) (fun h6 => J_pos h6 ?_) (fun h6 => J_neg h6 ?_)
      · refine J_mono (w_iconst_m1 C (jd jdt_Mo_setTold 13 rfl)) ?_
        exact J_some (fun hx => hR (-1) M hx _ _ (jd jdt_Mo_setTold 14 rfl) rfl)
      · refine J_mono (w_aload_n C (jd jdt_Mo_setTold 15 rfl) rfl) ?_
        refine J_mono (w_iload_n C (jd jdt_Mo_setTold 16 rfl) rfl) ?_
        refine J_mono (w_iload_n C (jd jdt_Mo_setTold 17 rfl) rfl) ?_
        refine J_mono (w_iload C (jd jdt_Mo_setTold 18 rfl) rfl) ?_
        refine J_bind (fun q7 hq7 => ?_)
        refine J_mono (jc_Mo_486 C hp0 (C_Mo_leastSet l G F a0 a1 a2 a4 hp0 M hq7) rfl (Nat.le_trans (Nat.le_of_ble_eq_true rfl : 7 + 1 ≤ 8) hD) (jd jdt_Mo_setTold 19 rfl)) ?_
        refine J_mono (w_istore (ls' := [some (.ref a0), some (.int a1), some (.int a2), some (.int a3), some (.int a4), some (.int q7.1)]) C (jd jdt_Mo_setTold 20 rfl) (by decide) rfl rfl) ?_
        refine J_mono (w_iload C (jd jdt_Mo_setTold 21 rfl) rfl) ?_
        refine J_mono (w_iconst_m1 C (jd jdt_Mo_setTold 22 rfl)) ?_
        refine J_br (w_icmp_ne C (jd jdt_Mo_setTold 23 rfl) rfl) (fun h8 => J_pos h8 ?_) (fun h8 => J_neg h8 ?_)
        · refine J_mono (w_iconst_m1 C (jd jdt_Mo_setTold 24 rfl)) ?_
          refine J_mono (w_goto C (jd jdt_Mo_setTold 25 rfl) rfl) ?_
          exact J_some (fun hx => hR (-1) q7.2 hx _ _ (jd jdt_Mo_setTold 32 rfl) rfl)
        · refine J_mono (w_iload_n C (jd jdt_Mo_setTold 26 rfl) rfl) ?_
          refine J_br (w_if_ne (y := 0) C (jd jdt_Mo_setTold 27 rfl) rfl) (fun h9 => J_pos h9 ?_) (fun h9 => J_neg h9 ?_)
          · refine J_mono (w_iload C (jd jdt_Mo_setTold 28 rfl) rfl) ?_
            refine J_bind (fun q10 hq10 => ?_)
            refine J_mono (jc_Mo_479 C (C_Mo_bits l G F q7.1 q7.2 hq10) rfl (Nat.le_trans (Nat.le_of_ble_eq_true rfl : 1 + 1 ≤ 8) hD) (jd jdt_Mo_setTold 29 rfl)) ?_
            refine J_mono (w_goto C (jd jdt_Mo_setTold 30 rfl) rfl) ?_
            exact J_some (fun hx => hR q10 q7.2 hx _ _ (jd jdt_Mo_setTold 32 rfl) rfl)
          · refine J_mono (w_iload C (jd jdt_Mo_setTold 31 rfl) rfl) ?_
            exact J_some (fun hx => hR q7.1 q7.2 hx _ _ (jd jdt_Mo_setTold 32 rfl) rfl)
end
theorem C_Mo_setTold (l : Launch) (G : JG) (F : jF G = false) (a0 : Nat) (a1 : Int32) (a2 : Int32) (a3 : Int32) (a4 : Int32) (hp0 : jkd a0 12) (M : SM) {q : (Int32 × SM)} (hf : f_Mo_setTold a0 a1 a2 a3 a4 M = some q) : jMet l jy_Mo_setTold jb_Mo_setTold 6 (some FieldType.int) 8 0 0 G [.ref a0, .int a1, .int a2, .int a3, .int a4] jN0 (jce G M) (some (.int q.1)) jN0 (jce G q.2) :=
  j_met jo_Mo_setTold (by decide) (Nat.le_of_ble_eq_true rfl) (fun p e s m args below meth c C hr hm => K_Mo_setTold C F (Nat.le_refl _) a0 a1 a2 a3 a4 hp0 M (fun t => t = q) (fun v M' hX pc ls hd hn => by cases hX; exact w_iret C hr hn hd) _ hf rfl)
def f_Mo_stop (a0 : Nat) (a1 : Int32) (a2 : Int32) (a3 : Int32) (M : SM) : Option (Int32 × SM) := (f_Mo_setTold a0 a1 a2 a3 1 M).bind fun q1 => some (q1.1, q1.2)
section
variable {p : Program} {l : Launch} {e : Env} {R : Room} {s : State} {m : MethodId} {args : Array Value} {below : List Frame} {meth : Method} {c : Code} {G : JG} {D : Nat} {Q : State → Prop}
set_option maxHeartbeats 4000000 in
set_option maxRecDepth 20000 in
theorem K_Mo_stop (C : jCx p R s m args meth c G jb_Mo_stop 4 D "SluicePitModel") (F : jF G = false) (hD : 9 ≤ D) (a0 : Nat) (a1 : Int32) (a2 : Int32) (a3 : Int32) (hp0 : jkd a0 12) (M : SM) (X : (Int32 × SM) → Prop) (hR : ∀ v M', X (v, M') → ∀ (pc : Nat) (ls : List (Option Value)), decode jb_Mo_stop pc = .ok (.ireturn, 1) → narrow FieldType.int (.int v) = .int v → Wk p l e R s m args below meth c G 4 Q 0 0 jN0 (jce G M') pc ls [.int v]) : J X (f_Mo_stop a0 a1 a2 a3 M) (Wk p l e R s m args below meth c G 4 Q 0 0 jN0 (jce G M) 0 [some (.ref a0), some (.int a1), some (.int a2), some (.int a3)] []) := by
  unfold f_Mo_stop
  refine J_mono (w_aload_n C (jd jdt_Mo_stop 0 rfl) rfl) ?_
  refine J_mono (w_iload_n C (jd jdt_Mo_stop 1 rfl) rfl) ?_
  refine J_mono (w_iload_n C (jd jdt_Mo_stop 2 rfl) rfl) ?_
  refine J_mono (w_iload_n C (jd jdt_Mo_stop 3 rfl) rfl) ?_
  refine J_mono (w_iconst_1 C (jd jdt_Mo_stop 4 rfl)) ?_
  refine J_bind (fun q1 hq1 => ?_)
  refine J_mono (jc_Mo_490 C hp0 (C_Mo_setTold l G F a0 a1 a2 a3 1 hp0 M hq1) rfl (Nat.le_trans (Nat.le_of_ble_eq_true rfl : 8 + 1 ≤ 9) hD) (jd jdt_Mo_stop 5 rfl)) ?_
  exact J_some (fun hx => hR q1.1 q1.2 hx _ _ (jd jdt_Mo_stop 6 rfl) rfl)
end
theorem C_Mo_stop (l : Launch) (G : JG) (F : jF G = false) (a0 : Nat) (a1 : Int32) (a2 : Int32) (a3 : Int32) (hp0 : jkd a0 12) (M : SM) {q : (Int32 × SM)} (hf : f_Mo_stop a0 a1 a2 a3 M = some q) : jMet l jy_Mo_stop jb_Mo_stop 4 (some FieldType.int) 9 0 0 G [.ref a0, .int a1, .int a2, .int a3] jN0 (jce G M) (some (.int q.1)) jN0 (jce G q.2) :=
  j_met jo_Mo_stop (by decide) (Nat.le_of_ble_eq_true rfl) (fun p e s m args below meth c C hr hm => K_Mo_stop C F (Nat.le_refl _) a0 a1 a2 a3 hp0 M (fun t => t = q) (fun v M' hX pc ls hd hn => by cases hX; exact w_iret C hr hn hd) _ hf rfl)
def f_Mo_bring (a0 : Nat) (a1 : Int32) (a2 : Int32) (a3 : Int32) (M : SM) : Option (Int32 × SM) := (f_Mo_setTold a0 a1 a2 a3 0 M).bind fun q1 => some (q1.1, q1.2)
section
variable {p : Program} {l : Launch} {e : Env} {R : Room} {s : State} {m : MethodId} {args : Array Value} {below : List Frame} {meth : Method} {c : Code} {G : JG} {D : Nat} {Q : State → Prop}
set_option maxHeartbeats 4000000 in
set_option maxRecDepth 20000 in
theorem K_Mo_bring (C : jCx p R s m args meth c G jb_Mo_bring 4 D "SluicePitModel") (F : jF G = false) (hD : 9 ≤ D) (a0 : Nat) (a1 : Int32) (a2 : Int32) (a3 : Int32) (hp0 : jkd a0 12) (M : SM) (X : (Int32 × SM) → Prop) (hR : ∀ v M', X (v, M') → ∀ (pc : Nat) (ls : List (Option Value)), decode jb_Mo_bring pc = .ok (.ireturn, 1) → narrow FieldType.int (.int v) = .int v → Wk p l e R s m args below meth c G 4 Q 0 0 jN0 (jce G M') pc ls [.int v]) : J X (f_Mo_bring a0 a1 a2 a3 M) (Wk p l e R s m args below meth c G 4 Q 0 0 jN0 (jce G M) 0 [some (.ref a0), some (.int a1), some (.int a2), some (.int a3)] []) := by
  unfold f_Mo_bring
  refine J_mono (w_aload_n C (jd jdt_Mo_bring 0 rfl) rfl) ?_
  refine J_mono (w_iload_n C (jd jdt_Mo_bring 1 rfl) rfl) ?_
  refine J_mono (w_iload_n C (jd jdt_Mo_bring 2 rfl) rfl) ?_
  refine J_mono (w_iload_n C (jd jdt_Mo_bring 3 rfl) rfl) ?_
  refine J_mono (w_iconst_0 C (jd jdt_Mo_bring 4 rfl)) ?_
  refine J_bind (fun q1 hq1 => ?_)
  refine J_mono (jc_Mo_490 C hp0 (C_Mo_setTold l G F a0 a1 a2 a3 0 hp0 M hq1) rfl (Nat.le_trans (Nat.le_of_ble_eq_true rfl : 8 + 1 ≤ 9) hD) (jd jdt_Mo_bring 5 rfl)) ?_
  exact J_some (fun hx => hR q1.1 q1.2 hx _ _ (jd jdt_Mo_bring 6 rfl) rfl)
end
theorem C_Mo_bring (l : Launch) (G : JG) (F : jF G = false) (a0 : Nat) (a1 : Int32) (a2 : Int32) (a3 : Int32) (hp0 : jkd a0 12) (M : SM) {q : (Int32 × SM)} (hf : f_Mo_bring a0 a1 a2 a3 M = some q) : jMet l jy_Mo_bring jb_Mo_bring 4 (some FieldType.int) 9 0 0 G [.ref a0, .int a1, .int a2, .int a3] jN0 (jce G M) (some (.int q.1)) jN0 (jce G q.2) :=
  j_met jo_Mo_bring (by decide) (Nat.le_of_ble_eq_true rfl) (fun p e s m args below meth c C hr hm => K_Mo_bring C F (Nat.le_refl _) a0 a1 a2 a3 hp0 M (fun t => t = q) (fun v M' hX pc ls hd hn => by cases hX; exact w_iret C hr hn hd) _ hf rfl)
def lp_Mo_wet_29 (y0 : Nat) (y1 : Int32) : Nat → Int32 → SM → Option (SM)
  | 0, _, _ => none
  | n + 1, x2, M => if x2 < y1 then ((aI M (jpf y0 0) x2).bind fun v4 => (aS M (jpf y0 66) x2 v4).bind fun M5 => lp_Mo_wet_29 y0 y1 n (x2 + 1) M5) else (some M)
def f_Mo_wet (a0 : Nat) (M : SM) : Option (Int32 × SM) := if ((sI M a0 1 0).1 a0 31) = 0 then (some (0, sI M a0 1 0)) else (if (M.1 a0 1) = ((sI M a0 1 0).1 a0 31) then ((lp_Mo_wet_29 a0 (M.1 a0 1) jfuel 0 (sI M a0 1 0)).bind fun q6 => some (1, sI q6 a0 65 1)) else (some (0, sI M a0 1 0)))
section
variable {p : Program} {l : Launch} {e : Env} {R : Room} {s : State} {m : MethodId} {args : Array Value} {below : List Frame} {meth : Method} {c : Code} {G : JG} {D : Nat} {Q : State → Prop}
set_option maxHeartbeats 4000000 in
set_option maxRecDepth 20000 in
theorem K_Mo_wet (C : jCx p R s m args meth c G jb_Mo_wet 3 D "SluicePitModel") (F : jF G = false) (hD : 1 ≤ D) (a0 : Nat) (hp0 : jkd a0 12) (M : SM) (X : (Int32 × SM) → Prop) (hR : ∀ v M', X (v, M') → ∀ (pc : Nat) (ls : List (Option Value)), decode jb_Mo_wet pc = .ok (.ireturn, 1) → narrow FieldType.boolean (.int v) = .int v → Wk p l e R s m args below meth c G 3 Q 0 0 jN0 (jce G M') pc ls [.int v]) : J X (f_Mo_wet a0 M) (Wk p l e R s m args below meth c G 3 Q 0 0 jN0 (jce G M) 0 [some (.ref a0), none, none] []) := by
  unfold f_Mo_wet
  refine J_mono (w_aload_n C (jd jdt_Mo_wet 0 rfl) rfl) ?_
  refine J_mono (jg_Mo_215 C hp0 (jd jdt_Mo_wet 1 rfl)) ?_
  refine J_mono (w_istore_n (ls' := [some (.ref a0), some (.int (M.1 a0 1)), none]) C (jd jdt_Mo_wet 2 rfl) (by decide) rfl rfl) ?_
  refine J_mono (w_aload_n C (jd jdt_Mo_wet 3 rfl) rfl) ?_
  refine J_mono (w_iconst_0 C (jd jdt_Mo_wet 4 rfl)) ?_
  refine J_mono (jp_Mo_215 C F hp0 (jd jdt_Mo_wet 5 rfl)) ?_
  refine J_mono (w_aload_n C (jd jdt_Mo_wet 6 rfl) rfl) ?_
  refine J_mono (jg_Mo_367 C hp0 (jd jdt_Mo_wet 7 rfl)) ?_
  refine J_br (w_if_eq (y := 0) C (jd jdt_Mo_wet 8 rfl) rfl) (fun h1 => J_pos h1 ?_) (fun h1 => J_neg h1 ?_)
  · refine J_mono (w_iconst_0 C (jd jdt_Mo_wet 13 rfl)) ?_
    exact J_some (fun hx => hR 0 (sI M a0 1 0) hx _ _ (jd jdt_Mo_wet 14 rfl) rfl)
  · refine J_mono (w_iload_n C (jd jdt_Mo_wet 9 rfl) rfl) ?_
    refine J_mono (w_aload_n C (jd jdt_Mo_wet 10 rfl) rfl) ?_
    refine J_mono (jg_Mo_367 C hp0 (jd jdt_Mo_wet 11 rfl)) ?_
    refine J_br (w_icmp_eq C (jd jdt_Mo_wet 12 rfl) rfl) (fun h2 => J_pos h2 ?_) (fun h2 => J_neg h2 ?_)
    · refine J_mono (w_iconst_0 C (jd jdt_Mo_wet 15 rfl)) ?_
      refine J_mono (w_istore_n (ls' := [some (.ref a0), some (.int (M.1 a0 1)), some (.int 0)]) C (jd jdt_Mo_wet 16 rfl) (by decide) rfl rfl) ?_
      have L29 : ∀ (y0 : Nat) (y1 : Int32) (hy0 : jkd y0 12) (n : Nat) (x2 : Int32) (M : SM), J (fun (q6 : SM) => Wk p l e R s m args below meth c G 3 Q 0 0 jN0 (jce G q6) 52 [some (.ref y0), none, none] []) (lp_Mo_wet_29 y0 y1 n x2 M) (Wk p l e R s m args below meth c G 3 Q 0 0 jN0 (jce G M) 29 [some (.ref y0), some (.int y1), some (.int x2)] []) := by
        intro y0 y1 hy0 n
        induction n with
        | zero => intro x2 M; exact J_none
        | succ n ih =>
          intro x2 M
          unfold lp_Mo_wet_29
          refine J_mono (w_iload_n C (jd jdt_Mo_wet 17 rfl) rfl) ?_
          refine J_mono (w_iload_n C (jd jdt_Mo_wet 18 rfl) rfl) ?_
          refine J_br (w_icmp_ge C (jd jdt_Mo_wet 19 rfl) rfl) (fun h3 => J_pos h3 ?_) (fun h3 => J_neg h3 ?_)
          · refine J_mono (w_aload_n C (jd jdt_Mo_wet 20 rfl) rfl) ?_
            refine J_mono (jg_Mo_136 C hy0 (jd jdt_Mo_wet 21 rfl)) ?_
            refine J_mono (w_iload_n C (jd jdt_Mo_wet 22 rfl) rfl) ?_
            refine J_mono (w_aload_n C (jd jdt_Mo_wet 23 rfl) rfl) ?_
            refine J_mono (jg_Mo_7 C hy0 (jd jdt_Mo_wet 24 rfl)) ?_
            refine J_mono (w_iload_n C (jd jdt_Mo_wet 25 rfl) rfl) ?_
            refine J_bind (fun v4 hv4 => ?_)
            refine J_mono (w_iald C (jkf_12_0 hy0) hv4 (jd jdt_Mo_wet 26 rfl)) ?_
            refine J_bind (fun M5 hM5 => ?_)
            refine J_mono (w_iast C F (jkf_12_66 hy0) hM5 (jd jdt_Mo_wet 27 rfl)) ?_
            refine J_mono (w_iinc (v := x2 + 1) (ls' := [some (.ref y0), some (.int y1), some (.int (x2 + 1))]) C (jd jdt_Mo_wet 28 rfl) rfl rfl (by decide) rfl rfl) ?_
            refine J_mono (w_goto C (jd jdt_Mo_wet 29 rfl) rfl) ?_
            exact J_sub (ih (x2 + 1) M5) ⟨rfl, rfl, rfl, trivial⟩
          · exact J_some (fun hx => Wk_sb hx ⟨rfl, trivial⟩)
      refine J_seq (fun (q6 : SM) => Wk p l e R s m args below meth c G 3 Q 0 0 jN0 (jce G q6) 52 [some (.ref a0), none, none] []) (J_sub (L29 a0 (M.1 a0 1) hp0 jfuel 0 (sI M a0 1 0)) ⟨rfl, rfl, rfl, trivial⟩) (fun q6 hq6 => ?_)
      refine J_mono (w_aload_n C (jd jdt_Mo_wet 30 rfl) rfl) ?_
      refine J_mono (w_iconst_1 C (jd jdt_Mo_wet 31 rfl)) ?_
      refine J_mono (jp_Mo_373 C F hp0 (Or.inr rfl) (jd jdt_Mo_wet 32 rfl)) ?_
      refine J_mono (w_iconst_1 C (jd jdt_Mo_wet 33 rfl)) ?_
      exact J_some (fun hx => hR 1 (sI q6 a0 65 1) hx _ _ (jd jdt_Mo_wet 34 rfl) rfl)
    · refine J_mono (w_iconst_0 C (jd jdt_Mo_wet 13 rfl)) ?_
      exact J_some (fun hx => hR 0 (sI M a0 1 0) hx _ _ (jd jdt_Mo_wet 14 rfl) rfl)
end
theorem C_Mo_wet (l : Launch) (G : JG) (F : jF G = false) (a0 : Nat) (hp0 : jkd a0 12) (M : SM) {q : (Int32 × SM)} (hf : f_Mo_wet a0 M = some q) : jMet l jy_Mo_wet jb_Mo_wet 3 (some FieldType.boolean) 1 0 0 G [.ref a0] jN0 (jce G M) (some (.int q.1)) jN0 (jce G q.2) :=
  j_met jo_Mo_wet (by decide) (Nat.le_of_ble_eq_true rfl) (fun p e s m args below meth c C hr hm => K_Mo_wet C F (Nat.le_refl _) a0 hp0 M (fun t => t = q) (fun v M' hX pc ls hd hn => by cases hX; exact w_iret C hr hn hd) _ hf rfl)
def lp_Mo_isAsWet_2 (y0 : Nat) (M : SM) : Nat → Int32 → Option ((Unit) ⊕ Int32)
  | 0, _ => none
  | n + 1, x1 => if x1 < (M.1 y0 31) then ((aI M (jpf y0 52) x1).bind fun v2 => (aI M (jpf y0 66) x1).bind fun v3 => if v2 = v3 then (lp_Mo_isAsWet_2 y0 M n (x1 + 1)) else (some (.inr 0))) else (some (.inl ()))
def f_Mo_isAsWet (a0 : Nat) (M : SM) : Option Int32 := jsb (lp_Mo_isAsWet_2 a0 M jfuel 0) id fun q5 => some 1
section
variable {p : Program} {l : Launch} {e : Env} {R : Room} {s : State} {m : MethodId} {args : Array Value} {below : List Frame} {meth : Method} {c : Code} {G : JG} {D : Nat} {Q : State → Prop}
set_option maxHeartbeats 4000000 in
set_option maxRecDepth 20000 in
theorem K_Mo_isAsWet (C : jCx p R s m args meth c G jb_Mo_isAsWet 2 D "SluicePitModel") (F : jF G = false) (hD : 1 ≤ D) (a0 : Nat) (hp0 : jkd a0 12) (M : SM) (X : Int32 → Prop) (hR : ∀ v, X v → ∀ (pc : Nat) (ls : List (Option Value)), decode jb_Mo_isAsWet pc = .ok (.ireturn, 1) → narrow FieldType.boolean (.int v) = .int v → Wk p l e R s m args below meth c G 2 Q 0 0 jN0 (jce G M) pc ls [.int v]) : J X (f_Mo_isAsWet a0 M) (Wk p l e R s m args below meth c G 2 Q 0 0 jN0 (jce G M) 0 [some (.ref a0), none] []) := by
  unfold f_Mo_isAsWet
  refine J_mono (w_iconst_0 C (jd jdt_Mo_isAsWet 0 rfl)) ?_
  refine J_mono (w_istore_n (ls' := [some (.ref a0), some (.int 0)]) C (jd jdt_Mo_isAsWet 1 rfl) (by decide) rfl rfl) ?_
  have L2 : ∀ (y0 : Nat) (hy0 : jkd y0 12) (n : Nat) (x1 : Int32), J (Sum.elim (fun (q5 : Unit) => Wk p l e R s m args below meth c G 2 Q 0 0 jN0 (jce G M) 33 [none, none] []) X) (lp_Mo_isAsWet_2 y0 M n x1) (Wk p l e R s m args below meth c G 2 Q 0 0 jN0 (jce G M) 2 [some (.ref y0), some (.int x1)] []) := by
    intro y0 hy0 n
    induction n with
    | zero => intro x1; exact J_none
    | succ n ih =>
      intro x1
      unfold lp_Mo_isAsWet_2
      refine J_mono (w_iload_n C (jd jdt_Mo_isAsWet 2 rfl) rfl) ?_
      refine J_mono (w_aload_n C (jd jdt_Mo_isAsWet 3 rfl) rfl) ?_
      refine J_mono (jg_Mo_367 C hy0 (jd jdt_Mo_isAsWet 4 rfl)) ?_
      refine J_br (w_icmp_ge C (jd jdt_Mo_isAsWet 5 rfl) rfl) (fun h1 => J_pos h1 ?_) (fun h1 => J_neg h1 ?_)
      · refine J_mono (w_aload_n C (jd jdt_Mo_isAsWet 6 rfl) rfl) ?_
        refine J_mono (jg_Mo_118 C hy0 (jd jdt_Mo_isAsWet 7 rfl)) ?_
        refine J_mono (w_iload_n C (jd jdt_Mo_isAsWet 8 rfl) rfl) ?_
        refine J_bind (fun v2 hv2 => ?_)
        refine J_mono (w_iald C (jkf_12_52 hy0) hv2 (jd jdt_Mo_isAsWet 9 rfl)) ?_
        refine J_mono (w_aload_n C (jd jdt_Mo_isAsWet 10 rfl) rfl) ?_
        refine J_mono (jg_Mo_136 C hy0 (jd jdt_Mo_isAsWet 11 rfl)) ?_
        refine J_mono (w_iload_n C (jd jdt_Mo_isAsWet 12 rfl) rfl) ?_
        refine J_bind (fun v3 hv3 => ?_)
        refine J_mono (w_iald C (jkf_12_66 hy0) hv3 (jd jdt_Mo_isAsWet 13 rfl)) ?_
        refine J_br (w_icmp_eq C (jd jdt_Mo_isAsWet 14 rfl) rfl) (fun h4 => J_pos h4 ?_) (fun h4 => J_neg h4 ?_)
        · refine J_mono (w_iinc (v := x1 + 1) (ls' := [some (.ref y0), some (.int (x1 + 1))]) C (jd jdt_Mo_isAsWet 17 rfl) rfl rfl (by decide) rfl rfl) ?_
          refine J_mono (w_goto C (jd jdt_Mo_isAsWet 18 rfl) rfl) ?_
          exact J_sub (ih (x1 + 1)) ⟨rfl, rfl, trivial⟩
        · refine J_mono (w_iconst_0 C (jd jdt_Mo_isAsWet 15 rfl)) ?_
          exact J_some (fun hx => hR 0 hx _ _ (jd jdt_Mo_isAsWet 16 rfl) rfl)
      · exact J_some (fun hx => Wk_sb hx trivial)
  refine J_sb (fun (q5 : Unit) => Wk p l e R s m args below meth c G 2 Q 0 0 jN0 (jce G M) 33 [none, none] []) (J_sub (L2 a0 hp0 jfuel 0) ⟨rfl, rfl, trivial⟩) (fun q5 => ?_)
  refine J_mono (w_iconst_1 C (jd jdt_Mo_isAsWet 19 rfl)) ?_
  exact J_some (fun hx => hR 1 hx _ _ (jd jdt_Mo_isAsWet 20 rfl) rfl)
end
theorem C_Mo_isAsWet (l : Launch) (G : JG) (F : jF G = false) (a0 : Nat) (hp0 : jkd a0 12) (M : SM) {q : Int32} (hf : f_Mo_isAsWet a0 M = some q) : jMet l jy_Mo_isAsWet jb_Mo_isAsWet 2 (some FieldType.boolean) 1 0 0 G [.ref a0] jN0 (jce G M) (some (.int q)) jN0 (jce G M) :=
  j_met jo_Mo_isAsWet (by decide) (Nat.le_of_ble_eq_true rfl) (fun p e s m args below meth c C hr hm => K_Mo_isAsWet C F (Nat.le_refl _) a0 hp0 M (fun t => t = q) (fun v hX pc ls hd hn => by cases hX; exact w_iret C hr hn hd) _ hf rfl)
def f_Mo_isEarly (a0 : Nat) (a1 : Int32) (a2 : Int32) (a3 : Int32) (M : SM) : Option (Int32 × SM) := (f_Mo_goesTo a0 a3 (sI (sI M a0 48 a1) a0 49 a2)).bind fun q1 => (f_Mo_isAsWet a0 (sI q1 a0 48 (-1))).bind fun q2 => (bchk q2).bind fun b3 => some (b3, sI q1 a0 48 (-1))
section
variable {p : Program} {l : Launch} {e : Env} {R : Room} {s : State} {m : MethodId} {args : Array Value} {below : List Frame} {meth : Method} {c : Code} {G : JG} {D : Nat} {Q : State → Prop}
set_option maxHeartbeats 4000000 in
set_option maxRecDepth 20000 in
theorem K_Mo_isEarly (C : jCx p R s m args meth c G jb_Mo_isEarly 4 D "SluicePitModel") (F : jF G = false) (hD : 6 ≤ D) (a0 : Nat) (a1 : Int32) (a2 : Int32) (a3 : Int32) (hp0 : jkd a0 12) (M : SM) (X : (Int32 × SM) → Prop) (hR : ∀ v M', X (v, M') → ∀ (pc : Nat) (ls : List (Option Value)), decode jb_Mo_isEarly pc = .ok (.ireturn, 1) → narrow FieldType.boolean (.int v) = .int v → Wk p l e R s m args below meth c G 4 Q 0 0 jN0 (jce G M') pc ls [.int v]) : J X (f_Mo_isEarly a0 a1 a2 a3 M) (Wk p l e R s m args below meth c G 4 Q 0 0 jN0 (jce G M) 0 [some (.ref a0), some (.int a1), some (.int a2), some (.int a3)] []) := by
  unfold f_Mo_isEarly
  refine J_mono (w_aload_n C (jd jdt_Mo_isEarly 0 rfl) rfl) ?_
  refine J_mono (w_iload_n C (jd jdt_Mo_isEarly 1 rfl) rfl) ?_
  refine J_mono (jp_Mo_112 C F hp0 (jd jdt_Mo_isEarly 2 rfl)) ?_
  refine J_mono (w_aload_n C (jd jdt_Mo_isEarly 3 rfl) rfl) ?_
  refine J_mono (w_iload_n C (jd jdt_Mo_isEarly 4 rfl) rfl) ?_
  refine J_mono (jp_Mo_392 C F hp0 (jd jdt_Mo_isEarly 5 rfl)) ?_
  refine J_mono (w_aload_n C (jd jdt_Mo_isEarly 6 rfl) rfl) ?_
  refine J_mono (w_iload_n C (jd jdt_Mo_isEarly 7 rfl) rfl) ?_
  refine J_bind (fun q1 hq1 => ?_)
  refine J_mono (jc_Mo_476 C hp0 (C_Mo_goesTo l G F a0 a3 hp0 (sI (sI M a0 48 a1) a0 49 a2) hq1) rfl (Nat.le_trans (Nat.le_of_ble_eq_true rfl : 5 + 1 ≤ 6) hD) (jd jdt_Mo_isEarly 8 rfl)) ?_
  refine J_mono (w_aload_n C (jd jdt_Mo_isEarly 9 rfl) rfl) ?_
  refine J_mono (w_iconst_m1 C (jd jdt_Mo_isEarly 10 rfl)) ?_
  refine J_mono (jp_Mo_112 C F hp0 (jd jdt_Mo_isEarly 11 rfl)) ?_
  refine J_mono (w_aload_n C (jd jdt_Mo_isEarly 12 rfl) rfl) ?_
  refine J_bind (fun q2 hq2 => ?_)
  refine J_mono (jc_Mo_494 C hp0 (C_Mo_isAsWet l G F a0 hp0 (sI q1 a0 48 (-1)) hq2) rfl (Nat.le_trans (Nat.le_of_ble_eq_true rfl : 1 + 1 ≤ 6) hD) (jd jdt_Mo_isEarly 13 rfl)) ?_
  refine J_bind (fun b3 hb3 => ?_)
  obtain rfl := bchk_e hb3
  exact J_some (fun hx => hR _ (sI q1 a0 48 (-1)) hx _ _ (jd jdt_Mo_isEarly 14 rfl) (bchk_n hb3))
end
theorem C_Mo_isEarly (l : Launch) (G : JG) (F : jF G = false) (a0 : Nat) (a1 : Int32) (a2 : Int32) (a3 : Int32) (hp0 : jkd a0 12) (M : SM) {q : (Int32 × SM)} (hf : f_Mo_isEarly a0 a1 a2 a3 M = some q) : jMet l jy_Mo_isEarly jb_Mo_isEarly 4 (some FieldType.boolean) 6 0 0 G [.ref a0, .int a1, .int a2, .int a3] jN0 (jce G M) (some (.int q.1)) jN0 (jce G q.2) :=
  j_met jo_Mo_isEarly (by decide) (Nat.le_of_ble_eq_true rfl) (fun p e s m args below meth c C hr hm => K_Mo_isEarly C F (Nat.le_refl _) a0 a1 a2 a3 hp0 M (fun t => t = q) (fun v M' hX pc ls hd hn => by cases hX; exact w_iret C hr hn hd) _ hf rfl)
def lp_Mo_early_38 (y0 : Nat) (y1 : Int32) (y2 : Int32) (y4 : Int32) : Nat → Int32 → Int32 → SM → Option ((Int32 × SM) ⊕ (Int32 × SM))
  | 0, _, _, _ => none
  | n + 1, x3, x5, M => if y1 < x5 then (some (.inl (x3, M))) else ((f_Mo_barsOf y0 y4 M).bind fun q7 => if q7 < x5 then (some (.inl (x3, M))) else ((f_Mo_isEarly y0 y4 x5 y1 M).bind fun q9 => if q9.1 = 0 then (lp_Mo_early_38 y0 y1 y2 y4 n x3 (x5 + 1) q9.2) else (if x3 = y2 then (some (.inr ((100 * y4) + x5, q9.2))) else (lp_Mo_early_38 y0 y1 y2 y4 n (x3 + 1) (x5 + 1) q9.2))))
def lp_Mo_early_26 (y0 : Nat) (y1 : Int32) (y2 : Int32) : Nat → Int32 → Int32 → SM → Option ((Int32 × SM) ⊕ (Int32 × SM))
  | 0, _, _, _ => none
  | n + 1, x3, x4, M => (f_Mo_deskMany y0 M).bind fun q4 => if x4 < q4 then (jsb (lp_Mo_early_38 y0 y1 y2 x4 jfuel x3 1 M) Sum.inr fun q12 => lp_Mo_early_26 y0 y1 y2 n q12.1 (x4 + 1) q12.2) else (some (.inl (x3, M)))
def f_Mo_early (a0 : Nat) (a1 : Int32) (a2 : Int32) (M : SM) : Option (Int32 × SM) := if (M.1 a0 65) = 0 then (some ((-1), M)) else ((f_Mo_isIn a1.toInt64 1 60).bind fun q2 => if q2 = 0 then (some ((-1), M)) else (jsb (lp_Mo_early_26 a0 a1 a2 jfuel 0 0 M) id fun q13 => if a2 = (-1) then (some (q13.1, q13.2)) else (some ((-1), q13.2))))
section
variable {p : Program} {l : Launch} {e : Env} {R : Room} {s : State} {m : MethodId} {args : Array Value} {below : List Frame} {meth : Method} {c : Code} {G : JG} {D : Nat} {Q : State → Prop}
set_option maxHeartbeats 4000000 in
set_option maxRecDepth 20000 in
theorem K_Mo_early (C : jCx p R s m args meth c G jb_Mo_early 6 D "SluicePitModel") (F : jF G = false) (hD : 7 ≤ D) (a0 : Nat) (a1 : Int32) (a2 : Int32) (hp0 : jkd a0 12) (M : SM) (X : (Int32 × SM) → Prop) (hR : ∀ v M', X (v, M') → ∀ (pc : Nat) (ls : List (Option Value)), decode jb_Mo_early pc = .ok (.ireturn, 1) → narrow FieldType.int (.int v) = .int v → Wk p l e R s m args below meth c G 6 Q 0 0 jN0 (jce G M') pc ls [.int v]) : J X (f_Mo_early a0 a1 a2 M) (Wk p l e R s m args below meth c G 6 Q 0 0 jN0 (jce G M) 0 [some (.ref a0), some (.int a1), some (.int a2), none, none, none] []) := by
  unfold f_Mo_early
  refine J_mono (w_aload_n C (jd jdt_Mo_early 0 rfl) rfl) ?_
  refine J_mono (jg_Mo_373 C hp0 (jd jdt_Mo_early 1 rfl)) ?_
  refine J_br (w_if_eq (y := 0) C (jd jdt_Mo_early 2 rfl) rfl) (fun h1 => J_pos h1 ?_) (fun h1 => J_neg h1 ?_)
  · refine J_mono (w_iconst_m1 C (jd jdt_Mo_early 9 rfl)) ?_
    exact J_some (fun hx => hR (-1) M hx _ _ (jd jdt_Mo_early 10 rfl) rfl)
  · refine J_mono (w_iload_n C (jd jdt_Mo_early 3 rfl) rfl) ?_
    refine J_mono (w_i2l C (jd jdt_Mo_early 4 rfl)) ?_
    refine J_mono (w_lconst_1 C (jd jdt_Mo_early 5 rfl)) ?_
    refine J_mono (w_ldc2 C (jd jdt_Mo_early 6 rfl) jw_1691) ?_
    refine J_bind (fun q2 hq2 => ?_)
    refine J_mono (jc_Mo_261 C (C_Mo_isIn l G F a1.toInt64 1 60 M hq2) rfl (Nat.le_trans (Nat.le_of_ble_eq_true rfl : 1 + 1 ≤ 7) hD) (jd jdt_Mo_early 7 rfl)) ?_
    refine J_br (w_if_ne (y := 0) C (jd jdt_Mo_early 8 rfl) rfl) (fun h3 => J_pos h3 ?_) (fun h3 => J_neg h3 ?_)
    · refine J_mono (w_iconst_m1 C (jd jdt_Mo_early 9 rfl)) ?_
      exact J_some (fun hx => hR (-1) M hx _ _ (jd jdt_Mo_early 10 rfl) rfl)
    · refine J_mono (w_iconst_0 C (jd jdt_Mo_early 11 rfl)) ?_
      refine J_mono (w_istore_n (ls' := [some (.ref a0), some (.int a1), some (.int a2), some (.int 0), none, none]) C (jd jdt_Mo_early 12 rfl) (by decide) rfl rfl) ?_
      refine J_mono (w_iconst_0 C (jd jdt_Mo_early 13 rfl)) ?_
      refine J_mono (w_istore (ls' := [some (.ref a0), some (.int a1), some (.int a2), some (.int 0), some (.int 0), none]) C (jd jdt_Mo_early 14 rfl) (by decide) rfl rfl) ?_
      have L26 : ∀ (y0 : Nat) (y1 : Int32) (y2 : Int32) (hy0 : jkd y0 12) (n : Nat) (x3 : Int32) (x4 : Int32) (M : SM), J (Sum.elim (fun (q13 : Int32 × SM) => Wk p l e R s m args below meth c G 6 Q 0 0 jN0 (jce G q13.2) 99 [none, none, some (.int y2), some (.int q13.1), none, none] []) X) (lp_Mo_early_26 y0 y1 y2 n x3 x4 M) (Wk p l e R s m args below meth c G 6 Q 0 0 jN0 (jce G M) 26 [some (.ref y0), some (.int y1), some (.int y2), some (.int x3), some (.int x4), none] []) := by
        intro y0 y1 y2 hy0 n
        induction n with
        | zero => intro x3 x4 M; exact J_none
        | succ n ih =>
          intro x3 x4 M
          unfold lp_Mo_early_26
          refine J_mono (w_iload C (jd jdt_Mo_early 15 rfl) rfl) ?_
          refine J_mono (w_aload_n C (jd jdt_Mo_early 16 rfl) rfl) ?_
          refine J_bind (fun q4 hq4 => ?_)
          refine J_mono (jc_Mo_380 C hy0 (C_Mo_deskMany l G F y0 hy0 M hq4) rfl (Nat.le_trans (Nat.le_of_ble_eq_true rfl : 1 + 1 ≤ 7) hD) (jd jdt_Mo_early 17 rfl)) ?_
          refine J_br (w_icmp_ge C (jd jdt_Mo_early 18 rfl) rfl) (fun h5 => J_pos h5 ?_) (fun h5 => J_neg h5 ?_)
          · refine J_mono (w_iconst_1 C (jd jdt_Mo_early 19 rfl)) ?_
            refine J_mono (w_istore (ls' := [some (.ref y0), some (.int y1), some (.int y2), some (.int x3), some (.int x4), some (.int 1)]) C (jd jdt_Mo_early 20 rfl) (by decide) rfl rfl) ?_
            have L38 : ∀ (y0 : Nat) (y1 : Int32) (y2 : Int32) (y4 : Int32) (hy0 : jkd y0 12) (n : Nat) (x3 : Int32) (x5 : Int32) (M : SM), J (Sum.elim (fun (q12 : Int32 × SM) => Wk p l e R s m args below meth c G 6 Q 0 0 jN0 (jce G q12.2) 93 [some (.ref y0), some (.int y1), some (.int y2), some (.int q12.1), some (.int y4), none] []) X) (lp_Mo_early_38 y0 y1 y2 y4 n x3 x5 M) (Wk p l e R s m args below meth c G 6 Q 0 0 jN0 (jce G M) 38 [some (.ref y0), some (.int y1), some (.int y2), some (.int x3), some (.int y4), some (.int x5)] []) := by
              intro y0 y1 y2 y4 hy0 n
              induction n with
              | zero => intro x3 x5 M; exact J_none
              | succ n ih =>
                intro x3 x5 M
                unfold lp_Mo_early_38
                refine J_mono (w_iload C (jd jdt_Mo_early 21 rfl) rfl) ?_
                refine J_mono (w_iload_n C (jd jdt_Mo_early 22 rfl) rfl) ?_
                refine J_br (w_icmp_gt C (jd jdt_Mo_early 23 rfl) rfl) (fun h6 => J_pos h6 ?_) (fun h6 => J_neg h6 ?_)
                · exact J_some (fun hx => Wk_sb hx ⟨rfl, rfl, rfl, rfl, rfl, trivial⟩)
                · refine J_mono (w_iload C (jd jdt_Mo_early 24 rfl) rfl) ?_
                  refine J_mono (w_aload_n C (jd jdt_Mo_early 25 rfl) rfl) ?_
                  refine J_mono (w_iload C (jd jdt_Mo_early 26 rfl) rfl) ?_
                  refine J_bind (fun q7 hq7 => ?_)
                  refine J_mono (jc_Mo_383 C hy0 (C_Mo_barsOf l G F y0 y4 hy0 M hq7) rfl (Nat.le_trans (Nat.le_of_ble_eq_true rfl : 1 + 1 ≤ 7) hD) (jd jdt_Mo_early 27 rfl)) ?_
                  refine J_br (w_icmp_gt C (jd jdt_Mo_early 28 rfl) rfl) (fun h8 => J_pos h8 ?_) (fun h8 => J_neg h8 ?_)
                  · exact J_some (fun hx => Wk_sb hx ⟨rfl, rfl, rfl, rfl, rfl, trivial⟩)
                  · refine J_mono (w_aload_n C (jd jdt_Mo_early 29 rfl) rfl) ?_
                    refine J_mono (w_iload C (jd jdt_Mo_early 30 rfl) rfl) ?_
                    refine J_mono (w_iload C (jd jdt_Mo_early 31 rfl) rfl) ?_
                    refine J_mono (w_iload_n C (jd jdt_Mo_early 32 rfl) rfl) ?_
                    refine J_bind (fun q9 hq9 => ?_)
                    refine J_mono (jc_Mo_497 C hy0 (C_Mo_isEarly l G F y0 y4 x5 y1 hy0 M hq9) rfl (Nat.le_trans (Nat.le_of_ble_eq_true rfl : 6 + 1 ≤ 7) hD) (jd jdt_Mo_early 33 rfl)) ?_
                    refine J_br (w_if_ne (y := 0) C (jd jdt_Mo_early 34 rfl) rfl) (fun h10 => J_pos h10 ?_) (fun h10 => J_neg h10 ?_)
                    · refine J_mono (w_goto C (jd jdt_Mo_early 35 rfl) rfl) ?_
                      refine J_mono (w_iinc (v := x5 + 1) (ls' := [some (.ref y0), some (.int y1), some (.int y2), some (.int x3), some (.int y4), some (.int (x5 + 1))]) C (jd jdt_Mo_early 46 rfl) rfl rfl (by decide) rfl rfl) ?_
                      refine J_mono (w_goto C (jd jdt_Mo_early 47 rfl) rfl) ?_
                      exact J_sub (ih x3 (x5 + 1) q9.2) ⟨rfl, rfl, rfl, rfl, rfl, rfl, trivial⟩
                    · refine J_mono (w_iload_n C (jd jdt_Mo_early 36 rfl) rfl) ?_
                      refine J_mono (w_iload_n C (jd jdt_Mo_early 37 rfl) rfl) ?_
                      refine J_br (w_icmp_ne C (jd jdt_Mo_early 38 rfl) rfl) (fun h11 => J_pos h11 ?_) (fun h11 => J_neg h11 ?_)
                      · refine J_mono (w_bipush_100 C (jd jdt_Mo_early 39 rfl)) ?_
                        refine J_mono (w_iload C (jd jdt_Mo_early 40 rfl) rfl) ?_
                        refine J_mono (w_imul C (jd jdt_Mo_early 41 rfl)) ?_
                        refine J_mono (w_iload C (jd jdt_Mo_early 42 rfl) rfl) ?_
                        refine J_mono (w_iadd C (jd jdt_Mo_early 43 rfl)) ?_
                        exact J_some (fun hx => hR ((100 * y4) + x5) q9.2 hx _ _ (jd jdt_Mo_early 44 rfl) rfl)
                      · refine J_mono (w_iinc (v := x3 + 1) (ls' := [some (.ref y0), some (.int y1), some (.int y2), some (.int (x3 + 1)), some (.int y4), some (.int x5)]) C (jd jdt_Mo_early 45 rfl) rfl rfl (by decide) rfl rfl) ?_
                        refine J_mono (w_iinc (v := x5 + 1) (ls' := [some (.ref y0), some (.int y1), some (.int y2), some (.int (x3 + 1)), some (.int y4), some (.int (x5 + 1))]) C (jd jdt_Mo_early 46 rfl) rfl rfl (by decide) rfl rfl) ?_
                        refine J_mono (w_goto C (jd jdt_Mo_early 47 rfl) rfl) ?_
                        exact J_sub (ih (x3 + 1) (x5 + 1) q9.2) ⟨rfl, rfl, rfl, rfl, rfl, rfl, trivial⟩
            refine J_sb (fun (q12 : Int32 × SM) => Wk p l e R s m args below meth c G 6 Q 0 0 jN0 (jce G q12.2) 93 [some (.ref y0), some (.int y1), some (.int y2), some (.int q12.1), some (.int x4), none] []) (J_sub (L38 y0 y1 y2 x4 hy0 jfuel x3 1 M) ⟨rfl, rfl, rfl, rfl, rfl, rfl, trivial⟩) (fun q12 => ?_)
            refine J_mono (w_iinc (v := x4 + 1) (ls' := [some (.ref y0), some (.int y1), some (.int y2), some (.int q12.1), some (.int (x4 + 1)), none]) C (jd jdt_Mo_early 48 rfl) rfl rfl (by decide) rfl rfl) ?_
            refine J_mono (w_goto C (jd jdt_Mo_early 49 rfl) rfl) ?_
            exact J_sub (ih q12.1 (x4 + 1) q12.2) ⟨rfl, rfl, rfl, rfl, rfl, trivial⟩
          · exact J_some (fun hx => Wk_sb hx ⟨rfl, rfl, trivial⟩)
      refine J_sb (fun (q13 : Int32 × SM) => Wk p l e R s m args below meth c G 6 Q 0 0 jN0 (jce G q13.2) 99 [none, none, some (.int a2), some (.int q13.1), none, none] []) (J_sub (L26 a0 a1 a2 hp0 jfuel 0 0 M) ⟨rfl, rfl, rfl, rfl, rfl, trivial⟩) (fun q13 => ?_)
      refine J_mono (w_iload_n C (jd jdt_Mo_early 50 rfl) rfl) ?_
      refine J_mono (w_iconst_m1 C (jd jdt_Mo_early 51 rfl)) ?_
      refine J_br (w_icmp_ne C (jd jdt_Mo_early 52 rfl) rfl) (fun h14 => J_pos h14 ?_) (fun h14 => J_neg h14 ?_)
      · refine J_mono (w_iload_n C (jd jdt_Mo_early 53 rfl) rfl) ?_
        refine J_mono (w_goto C (jd jdt_Mo_early 54 rfl) rfl) ?_
        exact J_some (fun hx => hR q13.1 q13.2 hx _ _ (jd jdt_Mo_early 56 rfl) rfl)
      · refine J_mono (w_iconst_m1 C (jd jdt_Mo_early 55 rfl)) ?_
        exact J_some (fun hx => hR (-1) q13.2 hx _ _ (jd jdt_Mo_early 56 rfl) rfl)
end
theorem C_Mo_early (l : Launch) (G : JG) (F : jF G = false) (a0 : Nat) (a1 : Int32) (a2 : Int32) (hp0 : jkd a0 12) (M : SM) {q : (Int32 × SM)} (hf : f_Mo_early a0 a1 a2 M = some q) : jMet l jy_Mo_early jb_Mo_early 6 (some FieldType.int) 7 0 0 G [.ref a0, .int a1, .int a2] jN0 (jce G M) (some (.int q.1)) jN0 (jce G q.2) :=
  j_met jo_Mo_early (by decide) (Nat.le_of_ble_eq_true rfl) (fun p e s m args below meth c C hr hm => K_Mo_early C F (Nat.le_refl _) a0 a1 a2 hp0 M (fun t => t = q) (fun v M' hX pc ls hd hn => by cases hX; exact w_iret C hr hn hd) _ hf rfl)
def lp_Mo_encore_54 (y0 : Nat) (y1 : Int32) (y2 : Int32) : Nat → Int32 → Int32 → SM → Option (Int32 × SM)
  | 0, _, _, _ => none
  | n + 1, x3, x4, M => if (y1 + y2) < x4 then (some (x3, M)) else ((f_Mo_goes y0 x4 M).bind fun q8 => (if y1 < x4 then (some (x3 + (q8.1 y0 58))) else (some x3) : Option (Int32)).bind fun q9 => lp_Mo_encore_54 y0 y1 y2 n q9 (x4 + 1) q8)
def f_Mo_encore (a0 : Nat) (a1 : Int32) (a2 : Int32) (M : SM) : Option (Int32 × SM) := (f_Mo_isIn a2.toInt64 1 30).bind fun q1 => if q1 = 0 then (some ((-1), M)) else ((f_Mo_isIn a1.toInt64 0 (Int32.toInt64 (60 - a2))).bind fun q3 => if q3 = 0 then (some ((-1), M)) else (if (M.1 a0 31) = 0 then (some ((-1), M)) else ((f_Mo_begins a0 (sI (sI M a0 50 a1) a0 51 a2)).bind fun q6 => (lp_Mo_encore_54 a0 a1 a2 jfuel 0 1 q6).bind fun q11 => some (q11.1, sI q11.2 a0 50 (-1)))))
section
variable {p : Program} {l : Launch} {e : Env} {R : Room} {s : State} {m : MethodId} {args : Array Value} {below : List Frame} {meth : Method} {c : Code} {G : JG} {D : Nat} {Q : State → Prop}
set_option maxHeartbeats 4000000 in
set_option maxRecDepth 20000 in
theorem K_Mo_encore (C : jCx p R s m args meth c G jb_Mo_encore 5 D "SluicePitModel") (F : jF G = false) (hD : 5 ≤ D) (a0 : Nat) (a1 : Int32) (a2 : Int32) (hp0 : jkd a0 12) (M : SM) (X : (Int32 × SM) → Prop) (hR : ∀ v M', X (v, M') → ∀ (pc : Nat) (ls : List (Option Value)), decode jb_Mo_encore pc = .ok (.ireturn, 1) → narrow FieldType.int (.int v) = .int v → Wk p l e R s m args below meth c G 5 Q 0 0 jN0 (jce G M') pc ls [.int v]) : J X (f_Mo_encore a0 a1 a2 M) (Wk p l e R s m args below meth c G 5 Q 0 0 jN0 (jce G M) 0 [some (.ref a0), some (.int a1), some (.int a2), none, none] []) := by
  unfold f_Mo_encore
  refine J_mono (w_iload_n C (jd jdt_Mo_encore 0 rfl) rfl) ?_
  refine J_mono (w_i2l C (jd jdt_Mo_encore 1 rfl)) ?_
  refine J_mono (w_lconst_1 C (jd jdt_Mo_encore 2 rfl)) ?_
  refine J_mono (w_ldc2 C (jd jdt_Mo_encore 3 rfl) jw_1798) ?_
  refine J_bind (fun q1 hq1 => ?_)
  refine J_mono (jc_Mo_261 C (C_Mo_isIn l G F a2.toInt64 1 30 M hq1) rfl (Nat.le_trans (Nat.le_of_ble_eq_true rfl : 1 + 1 ≤ 5) hD) (jd jdt_Mo_encore 4 rfl)) ?_
  refine J_br (w_if_eq (y := 0) C (jd jdt_Mo_encore 5 rfl) rfl) (fun h2 => J_pos h2 ?_) (fun h2 => J_neg h2 ?_)
  · refine J_mono (w_iconst_m1 C (jd jdt_Mo_encore 18 rfl)) ?_
    exact J_some (fun hx => hR (-1) M hx _ _ (jd jdt_Mo_encore 19 rfl) rfl)
  · refine J_mono (w_iload_n C (jd jdt_Mo_encore 6 rfl) rfl) ?_
    refine J_mono (w_i2l C (jd jdt_Mo_encore 7 rfl)) ?_
    refine J_mono (w_lconst_0 C (jd jdt_Mo_encore 8 rfl)) ?_
    refine J_mono (w_bipush_60 C (jd jdt_Mo_encore 9 rfl)) ?_
    refine J_mono (w_iload_n C (jd jdt_Mo_encore 10 rfl) rfl) ?_
    refine J_mono (w_isub C (jd jdt_Mo_encore 11 rfl)) ?_
    refine J_mono (w_i2l C (jd jdt_Mo_encore 12 rfl)) ?_
    refine J_bind (fun q3 hq3 => ?_)
    refine J_mono (jc_Mo_261 C (C_Mo_isIn l G F a1.toInt64 0 (Int32.toInt64 (60 - a2)) M hq3) rfl (Nat.le_trans (Nat.le_of_ble_eq_true rfl : 1 + 1 ≤ 5) hD) (jd jdt_Mo_encore 13 rfl)) ?_
    refine J_br (w_if_eq (y := 0) C (jd jdt_Mo_encore 14 rfl) rfl) (fun h4 => J_pos h4 ?_) (fun h4 => J_neg h4 ?_)
    · refine J_mono (w_iconst_m1 C (jd jdt_Mo_encore 18 rfl)) ?_
      exact J_some (fun hx => hR (-1) M hx _ _ (jd jdt_Mo_encore 19 rfl) rfl)
    · refine J_mono (w_aload_n C (jd jdt_Mo_encore 15 rfl) rfl) ?_
      refine J_mono (jg_Mo_367 C hp0 (jd jdt_Mo_encore 16 rfl)) ?_
      refine J_br (w_if_ne (y := 0) C (jd jdt_Mo_encore 17 rfl) rfl) (fun h5 => J_pos h5 ?_) (fun h5 => J_neg h5 ?_)
      · refine J_mono (w_iconst_m1 C (jd jdt_Mo_encore 18 rfl)) ?_
        exact J_some (fun hx => hR (-1) M hx _ _ (jd jdt_Mo_encore 19 rfl) rfl)
      · refine J_mono (w_aload_n C (jd jdt_Mo_encore 20 rfl) rfl) ?_
        refine J_mono (w_iload_n C (jd jdt_Mo_encore 21 rfl) rfl) ?_
        refine J_mono (jp_Mo_115 C F hp0 (jd jdt_Mo_encore 22 rfl)) ?_
        refine J_mono (w_aload_n C (jd jdt_Mo_encore 23 rfl) rfl) ?_
        refine J_mono (w_iload_n C (jd jdt_Mo_encore 24 rfl) rfl) ?_
        refine J_mono (jp_Mo_389 C F hp0 (jd jdt_Mo_encore 25 rfl)) ?_
        refine J_mono (w_aload_n C (jd jdt_Mo_encore 26 rfl) rfl) ?_
        refine J_bind (fun q6 hq6 => ?_)
        refine J_mono (jc_Mo_428 C hp0 (C_Mo_begins l G F a0 hp0 (sI (sI M a0 50 a1) a0 51 a2) hq6) rfl (Nat.le_trans (Nat.le_of_ble_eq_true rfl : 1 + 1 ≤ 5) hD) (jd jdt_Mo_encore 27 rfl)) ?_
        refine J_mono (w_iconst_0 C (jd jdt_Mo_encore 28 rfl)) ?_
        refine J_mono (w_istore_n (ls' := [some (.ref a0), some (.int a1), some (.int a2), some (.int 0), none]) C (jd jdt_Mo_encore 29 rfl) (by decide) rfl rfl) ?_
        refine J_mono (w_iconst_1 C (jd jdt_Mo_encore 30 rfl)) ?_
        refine J_mono (w_istore (ls' := [some (.ref a0), some (.int a1), some (.int a2), some (.int 0), some (.int 1)]) C (jd jdt_Mo_encore 31 rfl) (by decide) rfl rfl) ?_
        have L54 : ∀ (y0 : Nat) (y1 : Int32) (y2 : Int32) (hy0 : jkd y0 12) (n : Nat) (x3 : Int32) (x4 : Int32) (M : SM), J (fun (q11 : Int32 × SM) => Wk p l e R s m args below meth c G 5 Q 0 0 jN0 (jce G q11.2) 87 [some (.ref y0), none, none, some (.int q11.1), none] []) (lp_Mo_encore_54 y0 y1 y2 n x3 x4 M) (Wk p l e R s m args below meth c G 5 Q 0 0 jN0 (jce G M) 54 [some (.ref y0), some (.int y1), some (.int y2), some (.int x3), some (.int x4)] []) := by
          intro y0 y1 y2 hy0 n
          induction n with
          | zero => intro x3 x4 M; exact J_none
          | succ n ih =>
            intro x3 x4 M
            unfold lp_Mo_encore_54
            refine J_mono (w_iload C (jd jdt_Mo_encore 32 rfl) rfl) ?_
            refine J_mono (w_iload_n C (jd jdt_Mo_encore 33 rfl) rfl) ?_
            refine J_mono (w_iload_n C (jd jdt_Mo_encore 34 rfl) rfl) ?_
            refine J_mono (w_iadd C (jd jdt_Mo_encore 35 rfl)) ?_
            refine J_br (w_icmp_gt C (jd jdt_Mo_encore 36 rfl) rfl) (fun h7 => J_pos h7 ?_) (fun h7 => J_neg h7 ?_)
            · exact J_some (fun hx => Wk_sb hx ⟨rfl, rfl, trivial⟩)
            · refine J_mono (w_aload_n C (jd jdt_Mo_encore 37 rfl) rfl) ?_
              refine J_mono (w_iload C (jd jdt_Mo_encore 38 rfl) rfl) ?_
              refine J_bind (fun q8 hq8 => ?_)
              refine J_mono (jc_Mo_431 C hy0 (C_Mo_goes l G F y0 x4 hy0 M hq8) rfl (Nat.le_trans (Nat.le_of_ble_eq_true rfl : 4 + 1 ≤ 5) hD) (jd jdt_Mo_encore 39 rfl)) ?_
              refine J_mono (w_iload C (jd jdt_Mo_encore 40 rfl) rfl) ?_
              refine J_mono (w_iload_n C (jd jdt_Mo_encore 41 rfl) rfl) ?_
              refine J_seq (fun (q9 : Int32) => Wk p l e R s m args below meth c G 5 Q 0 0 jN0 (jce G q8) 81 [some (.ref y0), some (.int y1), some (.int y2), some (.int q9), some (.int x4)] []) ?_ (fun q9 hq9 => ?_)
              · refine J_br (w_icmp_le C (jd jdt_Mo_encore 42 rfl) rfl) (fun h10 => J_pos h10 ?_) (fun h10 => J_neg h10 ?_)
                · refine J_mono (w_iload_n C (jd jdt_Mo_encore 43 rfl) rfl) ?_
                  refine J_mono (w_aload_n C (jd jdt_Mo_encore 44 rfl) rfl) ?_
                  refine J_mono (jg_Mo_410 C hy0 (jd jdt_Mo_encore 45 rfl)) ?_
                  refine J_mono (w_iadd C (jd jdt_Mo_encore 46 rfl)) ?_
                  refine J_mono (w_istore_n (ls' := [some (.ref y0), some (.int y1), some (.int y2), some (.int (x3 + (q8.1 y0 58))), some (.int x4)]) C (jd jdt_Mo_encore 47 rfl) (by decide) rfl rfl) ?_
                  exact J_some (fun hx => Wk_sb hx ⟨rfl, rfl, rfl, rfl, rfl, trivial⟩)
                · exact J_some (fun hx => Wk_sb hx ⟨rfl, rfl, rfl, rfl, rfl, trivial⟩)
              · refine J_mono (w_iinc (v := x4 + 1) (ls' := [some (.ref y0), some (.int y1), some (.int y2), some (.int q9), some (.int (x4 + 1))]) C (jd jdt_Mo_encore 48 rfl) rfl rfl (by decide) rfl rfl) ?_
                refine J_mono (w_goto C (jd jdt_Mo_encore 49 rfl) rfl) ?_
                exact J_sub (ih q9 (x4 + 1) q8) ⟨rfl, rfl, rfl, rfl, rfl, trivial⟩
        refine J_seq (fun (q11 : Int32 × SM) => Wk p l e R s m args below meth c G 5 Q 0 0 jN0 (jce G q11.2) 87 [some (.ref a0), none, none, some (.int q11.1), none] []) (J_sub (L54 a0 a1 a2 hp0 jfuel 0 1 q6) ⟨rfl, rfl, rfl, rfl, rfl, trivial⟩) (fun q11 hq11 => ?_)
        refine J_mono (w_aload_n C (jd jdt_Mo_encore 50 rfl) rfl) ?_
        refine J_mono (w_iconst_m1 C (jd jdt_Mo_encore 51 rfl)) ?_
        refine J_mono (jp_Mo_115 C F hp0 (jd jdt_Mo_encore 52 rfl)) ?_
        refine J_mono (w_iload_n C (jd jdt_Mo_encore 53 rfl) rfl) ?_
        exact J_some (fun hx => hR q11.1 (sI q11.2 a0 50 (-1)) hx _ _ (jd jdt_Mo_encore 54 rfl) rfl)
end
theorem C_Mo_encore (l : Launch) (G : JG) (F : jF G = false) (a0 : Nat) (a1 : Int32) (a2 : Int32) (hp0 : jkd a0 12) (M : SM) {q : (Int32 × SM)} (hf : f_Mo_encore a0 a1 a2 M = some q) : jMet l jy_Mo_encore jb_Mo_encore 5 (some FieldType.int) 5 0 0 G [.ref a0, .int a1, .int a2] jN0 (jce G M) (some (.int q.1)) jN0 (jce G q.2) :=
  j_met jo_Mo_encore (by decide) (Nat.le_of_ble_eq_true rfl) (fun p e s m args below meth c C hr hm => K_Mo_encore C F (Nat.le_refl _) a0 a1 a2 hp0 M (fun t => t = q) (fun v M' hX pc ls hd hn => by cases hX; exact w_iret C hr hn hd) _ hf rfl)
def f_Mo_seed (a0 : Nat) (a1 : Int32) (M : SM) : Option (Int32 × SM) := if a1 < 0 then (some (0, M)) else (some (1, sL M a0 67 a1.toInt64))
section
variable {p : Program} {l : Launch} {e : Env} {R : Room} {s : State} {m : MethodId} {args : Array Value} {below : List Frame} {meth : Method} {c : Code} {G : JG} {D : Nat} {Q : State → Prop}
set_option maxHeartbeats 4000000 in
set_option maxRecDepth 20000 in
theorem K_Mo_seed (C : jCx p R s m args meth c G jb_Mo_seed 2 D "SluicePitModel") (F : jF G = false) (hD : 1 ≤ D) (a0 : Nat) (a1 : Int32) (hp0 : jkd a0 12) (M : SM) (X : (Int32 × SM) → Prop) (hR : ∀ v M', X (v, M') → ∀ (pc : Nat) (ls : List (Option Value)), decode jb_Mo_seed pc = .ok (.ireturn, 1) → narrow FieldType.boolean (.int v) = .int v → Wk p l e R s m args below meth c G 2 Q 0 0 jN0 (jce G M') pc ls [.int v]) : J X (f_Mo_seed a0 a1 M) (Wk p l e R s m args below meth c G 2 Q 0 0 jN0 (jce G M) 0 [some (.ref a0), some (.int a1)] []) := by
  unfold f_Mo_seed
  refine J_mono (w_iload_n C (jd jdt_Mo_seed 0 rfl) rfl) ?_
  refine J_br (w_if_ge (y := 0) C (jd jdt_Mo_seed 1 rfl) rfl) (fun h1 => J_pos h1 ?_) (fun h1 => J_neg h1 ?_)
  · refine J_mono (w_iconst_0 C (jd jdt_Mo_seed 2 rfl)) ?_
    exact J_some (fun hx => hR 0 M hx _ _ (jd jdt_Mo_seed 3 rfl) rfl)
  · refine J_mono (w_aload_n C (jd jdt_Mo_seed 4 rfl) rfl) ?_
    refine J_mono (w_iload_n C (jd jdt_Mo_seed 5 rfl) rfl) ?_
    refine J_mono (w_i2l C (jd jdt_Mo_seed 6 rfl)) ?_
    refine J_mono (jp_Mo_139 C F hp0 (jd jdt_Mo_seed 7 rfl)) ?_
    refine J_mono (w_iconst_1 C (jd jdt_Mo_seed 8 rfl)) ?_
    exact J_some (fun hx => hR 1 (sL M a0 67 a1.toInt64) hx _ _ (jd jdt_Mo_seed 9 rfl) rfl)
end
theorem C_Mo_seed (l : Launch) (G : JG) (F : jF G = false) (a0 : Nat) (a1 : Int32) (hp0 : jkd a0 12) (M : SM) {q : (Int32 × SM)} (hf : f_Mo_seed a0 a1 M = some q) : jMet l jy_Mo_seed jb_Mo_seed 2 (some FieldType.boolean) 1 0 0 G [.ref a0, .int a1] jN0 (jce G M) (some (.int q.1)) jN0 (jce G q.2) :=
  j_met jo_Mo_seed (by decide) (Nat.le_of_ble_eq_true rfl) (fun p e s m args below meth c C hr hm => K_Mo_seed C F (Nat.le_refl _) a0 a1 hp0 M (fun t => t = q) (fun v M' hX pc ls hd hn => by cases hX; exact w_iret C hr hn hd) _ hf rfl)
def f_Mo_drawOf (a0 : Nat) (a1 : Int32) (M : SM) : Option (Int32 × SM) := if a1.toInt64 = 0 then none else (some (Int64.toInt32 ((((sL M a0 67 (((1103515245 * (M.2 a0 67)) + 12345) - ((1103515245 * (M.2 a0 67)) + 12345) / 2147483648 * 2147483648)).2 a0 67) / 64) - (((sL M a0 67 (((1103515245 * (M.2 a0 67)) + 12345) - ((1103515245 * (M.2 a0 67)) + 12345) / 2147483648 * 2147483648)).2 a0 67) / 64) / a1.toInt64 * a1.toInt64), sL M a0 67 (((1103515245 * (M.2 a0 67)) + 12345) - ((1103515245 * (M.2 a0 67)) + 12345) / 2147483648 * 2147483648)))
section
variable {p : Program} {l : Launch} {e : Env} {R : Room} {s : State} {m : MethodId} {args : Array Value} {below : List Frame} {meth : Method} {c : Code} {G : JG} {D : Nat} {Q : State → Prop}
set_option maxHeartbeats 4000000 in
set_option maxRecDepth 20000 in
theorem K_Mo_drawOf (C : jCx p R s m args meth c G jb_Mo_drawOf 2 D "SluicePitModel") (F : jF G = false) (hD : 1 ≤ D) (a0 : Nat) (a1 : Int32) (hp0 : jkd a0 12) (M : SM) (X : (Int32 × SM) → Prop) (hR : ∀ v M', X (v, M') → ∀ (pc : Nat) (ls : List (Option Value)), decode jb_Mo_drawOf pc = .ok (.ireturn, 1) → narrow FieldType.int (.int v) = .int v → Wk p l e R s m args below meth c G 2 Q 0 0 jN0 (jce G M') pc ls [.int v]) : J X (f_Mo_drawOf a0 a1 M) (Wk p l e R s m args below meth c G 2 Q 0 0 jN0 (jce G M) 0 [some (.ref a0), some (.int a1)] []) := by
  unfold f_Mo_drawOf
  refine J_mono (w_aload_n C (jd jdt_Mo_drawOf 0 rfl) rfl) ?_
  refine J_mono (w_ldc2 C (jd jdt_Mo_drawOf 1 rfl) jw_1816) ?_
  refine J_mono (w_aload_n C (jd jdt_Mo_drawOf 2 rfl) rfl) ?_
  refine J_mono (jg_Mo_139 C hp0 (jd jdt_Mo_drawOf 3 rfl)) ?_
  refine J_mono (w_lmul C (jd jdt_Mo_drawOf 4 rfl)) ?_
  refine J_mono (w_ldc2 C (jd jdt_Mo_drawOf 5 rfl) jw_1817) ?_
  refine J_mono (w_ladd C (jd jdt_Mo_drawOf 6 rfl)) ?_
  refine J_mono (w_ldc2 C (jd jdt_Mo_drawOf 7 rfl) jw_1818) ?_
  refine J_mono (w_lrem C (jd jdt_Mo_drawOf 8 rfl) (by decide)) ?_
  refine J_mono (jp_Mo_139 C F hp0 (jd jdt_Mo_drawOf 9 rfl)) ?_
  refine J_mono (w_aload_n C (jd jdt_Mo_drawOf 10 rfl) rfl) ?_
  refine J_mono (jg_Mo_139 C hp0 (jd jdt_Mo_drawOf 11 rfl)) ?_
  refine J_mono (w_ldc2 C (jd jdt_Mo_drawOf 12 rfl) jw_1819) ?_
  refine J_mono (w_ldiv C (jd jdt_Mo_drawOf 13 rfl) (by decide)) ?_
  refine J_mono (w_iload_n C (jd jdt_Mo_drawOf 14 rfl) rfl) ?_
  refine J_mono (w_i2l C (jd jdt_Mo_drawOf 15 rfl)) ?_
  refine J_div (fun h1 => ?_)
  refine J_mono (w_lrem C (jd jdt_Mo_drawOf 16 rfl) h1) ?_
  refine J_mono (w_l2i C (jd jdt_Mo_drawOf 17 rfl)) ?_
  exact J_some (fun hx => hR (Int64.toInt32 ((((sL M a0 67 (((1103515245 * (M.2 a0 67)) + 12345) - ((1103515245 * (M.2 a0 67)) + 12345) / 2147483648 * 2147483648)).2 a0 67) / 64) - (((sL M a0 67 (((1103515245 * (M.2 a0 67)) + 12345) - ((1103515245 * (M.2 a0 67)) + 12345) / 2147483648 * 2147483648)).2 a0 67) / 64) / a1.toInt64 * a1.toInt64)) (sL M a0 67 (((1103515245 * (M.2 a0 67)) + 12345) - ((1103515245 * (M.2 a0 67)) + 12345) / 2147483648 * 2147483648)) hx _ _ (jd jdt_Mo_drawOf 18 rfl) rfl)
end
theorem C_Mo_drawOf (l : Launch) (G : JG) (F : jF G = false) (a0 : Nat) (a1 : Int32) (hp0 : jkd a0 12) (M : SM) {q : (Int32 × SM)} (hf : f_Mo_drawOf a0 a1 M = some q) : jMet l jy_Mo_drawOf jb_Mo_drawOf 2 (some FieldType.int) 1 0 0 G [.ref a0, .int a1] jN0 (jce G M) (some (.int q.1)) jN0 (jce G q.2) :=
  j_met jo_Mo_drawOf (by decide) (Nat.le_of_ble_eq_true rfl) (fun p e s m args below meth c C hr hm => K_Mo_drawOf C F (Nat.le_refl _) a0 a1 hp0 M (fun t => t = q) (fun v M' hX pc ls hd hn => by cases hX; exact w_iret C hr hn hd) _ hf rfl)
def lp_Mo_isLeft_5 (y0 : Nat) (y2 : Int32) : Nat → Int32 → Int32 → SM → Option ((SM) ⊕ (Int32 × SM))
  | 0, _, _, _ => none
  | n + 1, x3, x4, M => if y2 < x4 then (some (.inl M)) else ((aI M (jpf y0 59) ((12 * x4) + x3)).bind fun v2 => if v2 = 0 then (some (.inr (0, M))) else ((f_Mo_drawOf y0 3 M).bind fun q4 => (if q4.1 = 1 then (some (x3 - 1)) else (if q4.1 = 2 then (some (x3 + 1)) else (some x3)) : Option (Int32)).bind fun q5 => (f_Mo_isCell y0 q5 q4.2).bind fun q8 => (if q8 = 0 then (some x3) else ((aI q4.2 (jpf y0 59) ((12 * x4) + q5)).bind fun v11 => if 0 < v11 then (some q5) else (some x3)) : Option (Int32)).bind fun q9 => lp_Mo_isLeft_5 y0 y2 n q9 (x4 + 1) q4.2))
def f_Mo_isLeft (a0 : Nat) (a1 : Int32) (a2 : Int32) (M : SM) : Option (Int32 × SM) := jsb (lp_Mo_isLeft_5 a0 a2 jfuel a1 1 M) id fun q13 => some (1, q13)
section
variable {p : Program} {l : Launch} {e : Env} {R : Room} {s : State} {m : MethodId} {args : Array Value} {below : List Frame} {meth : Method} {c : Code} {G : JG} {D : Nat} {Q : State → Prop}
set_option maxHeartbeats 4000000 in
set_option maxRecDepth 20000 in
theorem K_Mo_isLeft (C : jCx p R s m args meth c G jb_Mo_isLeft 7 D "SluicePitModel") (F : jF G = false) (hD : 3 ≤ D) (a0 : Nat) (a1 : Int32) (a2 : Int32) (hp0 : jkd a0 12) (M : SM) (X : (Int32 × SM) → Prop) (hR : ∀ v M', X (v, M') → ∀ (pc : Nat) (ls : List (Option Value)), decode jb_Mo_isLeft pc = .ok (.ireturn, 1) → narrow FieldType.boolean (.int v) = .int v → Wk p l e R s m args below meth c G 7 Q 0 0 jN0 (jce G M') pc ls [.int v]) : J X (f_Mo_isLeft a0 a1 a2 M) (Wk p l e R s m args below meth c G 7 Q 0 0 jN0 (jce G M) 0 [some (.ref a0), some (.int a1), some (.int a2), none, none, none, none] []) := by
  unfold f_Mo_isLeft
  refine J_mono (w_iload_n C (jd jdt_Mo_isLeft 0 rfl) rfl) ?_
  refine J_mono (w_istore_n (ls' := [some (.ref a0), some (.int a1), some (.int a2), some (.int a1), none, none, none]) C (jd jdt_Mo_isLeft 1 rfl) (by decide) rfl rfl) ?_
  refine J_mono (w_iconst_1 C (jd jdt_Mo_isLeft 2 rfl)) ?_
  refine J_mono (w_istore (ls' := [some (.ref a0), some (.int a1), some (.int a2), some (.int a1), some (.int 1), none, none]) C (jd jdt_Mo_isLeft 3 rfl) (by decide) rfl rfl) ?_
  have L5 : ∀ (y0 : Nat) (y2 : Int32) (hy0 : jkd y0 12) (n : Nat) (x3 : Int32) (x4 : Int32) (M : SM), J (Sum.elim (fun (q13 : SM) => Wk p l e R s m args below meth c G 7 Q 0 0 jN0 (jce G q13) 96 [none, none, none, none, none, none, none] []) X) (lp_Mo_isLeft_5 y0 y2 n x3 x4 M) (Wk p l e R s m args below meth c G 7 Q 0 0 jN0 (jce G M) 5 [some (.ref y0), none, some (.int y2), some (.int x3), some (.int x4), none, none] []) := by
    intro y0 y2 hy0 n
    induction n with
    | zero => intro x3 x4 M; exact J_none
    | succ n ih =>
      intro x3 x4 M
      unfold lp_Mo_isLeft_5
      refine J_mono (w_iload C (jd jdt_Mo_isLeft 4 rfl) rfl) ?_
      refine J_mono (w_iload_n C (jd jdt_Mo_isLeft 5 rfl) rfl) ?_
      refine J_br (w_icmp_gt C (jd jdt_Mo_isLeft 6 rfl) rfl) (fun h1 => J_pos h1 ?_) (fun h1 => J_neg h1 ?_)
      · exact J_some (fun hx => Wk_sb hx trivial)
      · refine J_mono (w_aload_n C (jd jdt_Mo_isLeft 7 rfl) rfl) ?_
        refine J_mono (jg_Mo_124 C hy0 (jd jdt_Mo_isLeft 8 rfl)) ?_
        refine J_mono (w_bipush_12 C (jd jdt_Mo_isLeft 9 rfl)) ?_
        refine J_mono (w_iload C (jd jdt_Mo_isLeft 10 rfl) rfl) ?_
        refine J_mono (w_imul C (jd jdt_Mo_isLeft 11 rfl)) ?_
        refine J_mono (w_iload_n C (jd jdt_Mo_isLeft 12 rfl) rfl) ?_
        refine J_mono (w_iadd C (jd jdt_Mo_isLeft 13 rfl)) ?_
        refine J_bind (fun v2 hv2 => ?_)
        refine J_mono (w_iald C (jkf_12_59 hy0) hv2 (jd jdt_Mo_isLeft 14 rfl)) ?_
        refine J_br (w_if_ne (y := 0) C (jd jdt_Mo_isLeft 15 rfl) rfl) (fun h3 => J_pos h3 ?_) (fun h3 => J_neg h3 ?_)
        · refine J_mono (w_iconst_0 C (jd jdt_Mo_isLeft 16 rfl)) ?_
          exact J_some (fun hx => hR 0 M hx _ _ (jd jdt_Mo_isLeft 17 rfl) rfl)
        · refine J_mono (w_aload_n C (jd jdt_Mo_isLeft 18 rfl) rfl) ?_
          refine J_mono (w_iconst_3 C (jd jdt_Mo_isLeft 19 rfl)) ?_
          refine J_bind (fun q4 hq4 => ?_)
          refine J_mono (jc_Mo_510 C hy0 (C_Mo_drawOf l G F y0 3 hy0 M hq4) rfl (Nat.le_trans (Nat.le_of_ble_eq_true rfl : 1 + 1 ≤ 3) hD) (jd jdt_Mo_isLeft 20 rfl)) ?_
          refine J_mono (w_istore (ls' := [some (.ref y0), none, some (.int y2), some (.int x3), some (.int x4), some (.int q4.1), none]) C (jd jdt_Mo_isLeft 21 rfl) (by decide) rfl rfl) ?_
          refine J_mono (w_iload C (jd jdt_Mo_isLeft 22 rfl) rfl) ?_
          refine J_mono (w_iconst_1 C (jd jdt_Mo_isLeft 23 rfl)) ?_
          refine J_seq (fun (q5 : Int32) => Wk p l e R s m args below meth c G 7 Q 0 0 jN0 (jce G q4.2) 60 [some (.ref y0), none, some (.int y2), some (.int x3), some (.int x4), none, none] [.int q5]) ?_ (fun q5 hq5 => ?_)
          · refine J_br (w_icmp_ne C (jd jdt_Mo_isLeft 24 rfl) rfl) (fun h6 => J_pos h6 ?_) (fun h6 => J_neg h6 ?_)
            · refine J_mono (w_iload_n C (jd jdt_Mo_isLeft 25 rfl) rfl) ?_
              refine J_mono (w_iconst_1 C (jd jdt_Mo_isLeft 26 rfl)) ?_
              refine J_mono (w_isub C (jd jdt_Mo_isLeft 27 rfl)) ?_
              refine J_mono (w_goto C (jd jdt_Mo_isLeft 28 rfl) rfl) ?_
              exact J_some (fun hx => Wk_sb hx ⟨rfl, rfl, rfl, rfl, trivial⟩)
            · refine J_mono (w_iload C (jd jdt_Mo_isLeft 29 rfl) rfl) ?_
              refine J_mono (w_iconst_2 C (jd jdt_Mo_isLeft 30 rfl)) ?_
              refine J_br (w_icmp_ne C (jd jdt_Mo_isLeft 31 rfl) rfl) (fun h7 => J_pos h7 ?_) (fun h7 => J_neg h7 ?_)
              · refine J_mono (w_iload_n C (jd jdt_Mo_isLeft 32 rfl) rfl) ?_
                refine J_mono (w_iconst_1 C (jd jdt_Mo_isLeft 33 rfl)) ?_
                refine J_mono (w_iadd C (jd jdt_Mo_isLeft 34 rfl)) ?_
                refine J_mono (w_goto C (jd jdt_Mo_isLeft 35 rfl) rfl) ?_
                exact J_some (fun hx => Wk_sb hx ⟨rfl, rfl, rfl, rfl, trivial⟩)
              · refine J_mono (w_iload_n C (jd jdt_Mo_isLeft 36 rfl) rfl) ?_
                exact J_some (fun hx => Wk_sb hx ⟨rfl, rfl, rfl, rfl, trivial⟩)
          · refine J_mono (w_istore (ls' := [some (.ref y0), none, some (.int y2), some (.int x3), some (.int x4), none, some (.int q5)]) C (jd jdt_Mo_isLeft 37 rfl) (by decide) rfl rfl) ?_
            refine J_mono (w_aload_n C (jd jdt_Mo_isLeft 38 rfl) rfl) ?_
            refine J_mono (w_iload C (jd jdt_Mo_isLeft 39 rfl) rfl) ?_
            refine J_bind (fun q8 hq8 => ?_)
            refine J_mono (jc_Mo_457 C hy0 (C_Mo_isCell l G F y0 q5 hy0 q4.2 hq8) rfl (Nat.le_trans (Nat.le_of_ble_eq_true rfl : 2 + 1 ≤ 3) hD) (jd jdt_Mo_isLeft 40 rfl)) ?_
            refine J_seq (fun (q9 : Int32) => Wk p l e R s m args below meth c G 7 Q 0 0 jN0 (jce G q4.2) 90 [some (.ref y0), none, some (.int y2), some (.int q9), some (.int x4), none, none] []) ?_ (fun q9 hq9 => ?_)
            · refine J_br (w_if_eq (y := 0) C (jd jdt_Mo_isLeft 41 rfl) rfl) (fun h10 => J_pos h10 ?_) (fun h10 => J_neg h10 ?_)
              · exact J_some (fun hx => Wk_sb hx ⟨rfl, rfl, rfl, rfl, trivial⟩)
              · refine J_mono (w_aload_n C (jd jdt_Mo_isLeft 42 rfl) rfl) ?_
                refine J_mono (jg_Mo_124 C hy0 (jd jdt_Mo_isLeft 43 rfl)) ?_
                refine J_mono (w_bipush_12 C (jd jdt_Mo_isLeft 44 rfl)) ?_
                refine J_mono (w_iload C (jd jdt_Mo_isLeft 45 rfl) rfl) ?_
                refine J_mono (w_imul C (jd jdt_Mo_isLeft 46 rfl)) ?_
                refine J_mono (w_iload C (jd jdt_Mo_isLeft 47 rfl) rfl) ?_
                refine J_mono (w_iadd C (jd jdt_Mo_isLeft 48 rfl)) ?_
                refine J_bind (fun v11 hv11 => ?_)
                refine J_mono (w_iald C (jkf_12_59 hy0) hv11 (jd jdt_Mo_isLeft 49 rfl)) ?_
                refine J_br (w_if_le (y := 0) C (jd jdt_Mo_isLeft 50 rfl) rfl) (fun h12 => J_pos h12 ?_) (fun h12 => J_neg h12 ?_)
                · refine J_mono (w_iload C (jd jdt_Mo_isLeft 51 rfl) rfl) ?_
                  refine J_mono (w_istore_n (ls' := [some (.ref y0), none, some (.int y2), some (.int q5), some (.int x4), none, some (.int q5)]) C (jd jdt_Mo_isLeft 52 rfl) (by decide) rfl rfl) ?_
                  exact J_some (fun hx => Wk_sb hx ⟨rfl, rfl, rfl, rfl, trivial⟩)
                · exact J_some (fun hx => Wk_sb hx ⟨rfl, rfl, rfl, rfl, trivial⟩)
            · refine J_mono (w_iinc (v := x4 + 1) (ls' := [some (.ref y0), none, some (.int y2), some (.int q9), some (.int (x4 + 1)), none, none]) C (jd jdt_Mo_isLeft 53 rfl) rfl rfl (by decide) rfl rfl) ?_
              refine J_mono (w_goto C (jd jdt_Mo_isLeft 54 rfl) rfl) ?_
              exact J_sub (ih q9 (x4 + 1) q4.2) ⟨rfl, rfl, rfl, rfl, trivial⟩
  refine J_sb (fun (q13 : SM) => Wk p l e R s m args below meth c G 7 Q 0 0 jN0 (jce G q13) 96 [none, none, none, none, none, none, none] []) (J_sub (L5 a0 a2 hp0 jfuel a1 1 M) ⟨rfl, rfl, rfl, rfl, trivial⟩) (fun q13 => ?_)
  refine J_mono (w_iconst_1 C (jd jdt_Mo_isLeft 55 rfl)) ?_
  exact J_some (fun hx => hR 1 q13 hx _ _ (jd jdt_Mo_isLeft 56 rfl) rfl)
end
theorem C_Mo_isLeft (l : Launch) (G : JG) (F : jF G = false) (a0 : Nat) (a1 : Int32) (a2 : Int32) (hp0 : jkd a0 12) (M : SM) {q : (Int32 × SM)} (hf : f_Mo_isLeft a0 a1 a2 M = some q) : jMet l jy_Mo_isLeft jb_Mo_isLeft 7 (some FieldType.boolean) 3 0 0 G [.ref a0, .int a1, .int a2] jN0 (jce G M) (some (.int q.1)) jN0 (jce G q.2) :=
  j_met jo_Mo_isLeft (by decide) (Nat.le_of_ble_eq_true rfl) (fun p e s m args below meth c C hr hm => K_Mo_isLeft C F (Nat.le_refl _) a0 a1 a2 hp0 M (fun t => t = q) (fun v M' hX pc ls hd hn => by cases hX; exact w_iret C hr hn hd) _ hf rfl)
def lp_Mo_trout_35 (y0 : Nat) (y1 : Int32) (y2 : Int32) (y3 : Int32) : Nat → Int32 → Int32 → SM → Option (Int32 × SM)
  | 0, _, _, _ => none
  | n + 1, x4, x5, M => if x5 < y2 then ((f_Mo_isLeft y0 y1 y3 M).bind fun q8 => (if q8.1 = 0 then (some x4) else (some (x4 + 1)) : Option (Int32)).bind fun q9 => lp_Mo_trout_35 y0 y1 y2 y3 n q9 (x5 + 1) q8.2) else (some (x4, M))
def f_Mo_trout (a0 : Nat) (a1 : Int32) (a2 : Int32) (a3 : Int32) (M : SM) : Option (Int32 × SM) := (f_Mo_isCell a0 a1 M).bind fun q1 => if q1 = 0 then (some ((-1), M)) else ((f_Mo_isIn a2.toInt64 1 50).bind fun q3 => if q3 = 0 then (some ((-1), M)) else ((f_Mo_isBar a3).bind fun q5 => if q5 = 0 then (some ((-1), M)) else ((lp_Mo_trout_35 a0 a1 a2 a3 jfuel 0 0 M).bind fun q11 => some (q11.1, q11.2))))
section
variable {p : Program} {l : Launch} {e : Env} {R : Room} {s : State} {m : MethodId} {args : Array Value} {below : List Frame} {meth : Method} {c : Code} {G : JG} {D : Nat} {Q : State → Prop}
set_option maxHeartbeats 4000000 in
set_option maxRecDepth 20000 in
theorem K_Mo_trout (C : jCx p R s m args meth c G jb_Mo_trout 6 D "SluicePitModel") (F : jF G = false) (hD : 4 ≤ D) (a0 : Nat) (a1 : Int32) (a2 : Int32) (a3 : Int32) (hp0 : jkd a0 12) (M : SM) (X : (Int32 × SM) → Prop) (hR : ∀ v M', X (v, M') → ∀ (pc : Nat) (ls : List (Option Value)), decode jb_Mo_trout pc = .ok (.ireturn, 1) → narrow FieldType.int (.int v) = .int v → Wk p l e R s m args below meth c G 6 Q 0 0 jN0 (jce G M') pc ls [.int v]) : J X (f_Mo_trout a0 a1 a2 a3 M) (Wk p l e R s m args below meth c G 6 Q 0 0 jN0 (jce G M) 0 [some (.ref a0), some (.int a1), some (.int a2), some (.int a3), none, none] []) := by
  unfold f_Mo_trout
  refine J_mono (w_aload_n C (jd jdt_Mo_trout 0 rfl) rfl) ?_
  refine J_mono (w_iload_n C (jd jdt_Mo_trout 1 rfl) rfl) ?_
  refine J_bind (fun q1 hq1 => ?_)
  refine J_mono (jc_Mo_457 C hp0 (C_Mo_isCell l G F a0 a1 hp0 M hq1) rfl (Nat.le_trans (Nat.le_of_ble_eq_true rfl : 2 + 1 ≤ 4) hD) (jd jdt_Mo_trout 2 rfl)) ?_
  refine J_br (w_if_eq (y := 0) C (jd jdt_Mo_trout 3 rfl) rfl) (fun h2 => J_pos h2 ?_) (fun h2 => J_neg h2 ?_)
  · refine J_mono (w_iconst_m1 C (jd jdt_Mo_trout 13 rfl)) ?_
    exact J_some (fun hx => hR (-1) M hx _ _ (jd jdt_Mo_trout 14 rfl) rfl)
  · refine J_mono (w_iload_n C (jd jdt_Mo_trout 4 rfl) rfl) ?_
    refine J_mono (w_i2l C (jd jdt_Mo_trout 5 rfl)) ?_
    refine J_mono (w_lconst_1 C (jd jdt_Mo_trout 6 rfl)) ?_
    refine J_mono (w_ldc2 C (jd jdt_Mo_trout 7 rfl) jw_1807) ?_
    refine J_bind (fun q3 hq3 => ?_)
    refine J_mono (jc_Mo_261 C (C_Mo_isIn l G F a2.toInt64 1 50 M hq3) rfl (Nat.le_trans (Nat.le_of_ble_eq_true rfl : 1 + 1 ≤ 4) hD) (jd jdt_Mo_trout 8 rfl)) ?_
    refine J_br (w_if_eq (y := 0) C (jd jdt_Mo_trout 9 rfl) rfl) (fun h4 => J_pos h4 ?_) (fun h4 => J_neg h4 ?_)
    · refine J_mono (w_iconst_m1 C (jd jdt_Mo_trout 13 rfl)) ?_
      exact J_some (fun hx => hR (-1) M hx _ _ (jd jdt_Mo_trout 14 rfl) rfl)
    · refine J_mono (w_iload_n C (jd jdt_Mo_trout 10 rfl) rfl) ?_
      refine J_bind (fun q5 hq5 => ?_)
      refine J_mono (jc_Mo_460 C (C_Mo_isBar l G F a3 M hq5) rfl (Nat.le_trans (Nat.le_of_ble_eq_true rfl : 2 + 1 ≤ 4) hD) (jd jdt_Mo_trout 11 rfl)) ?_
      refine J_br (w_if_ne (y := 0) C (jd jdt_Mo_trout 12 rfl) rfl) (fun h6 => J_pos h6 ?_) (fun h6 => J_neg h6 ?_)
      · refine J_mono (w_iconst_m1 C (jd jdt_Mo_trout 13 rfl)) ?_
        exact J_some (fun hx => hR (-1) M hx _ _ (jd jdt_Mo_trout 14 rfl) rfl)
      · refine J_mono (w_iconst_0 C (jd jdt_Mo_trout 15 rfl)) ?_
        refine J_mono (w_istore (ls' := [some (.ref a0), some (.int a1), some (.int a2), some (.int a3), some (.int 0), none]) C (jd jdt_Mo_trout 16 rfl) (by decide) rfl rfl) ?_
        refine J_mono (w_iconst_0 C (jd jdt_Mo_trout 17 rfl)) ?_
        refine J_mono (w_istore (ls' := [some (.ref a0), some (.int a1), some (.int a2), some (.int a3), some (.int 0), some (.int 0)]) C (jd jdt_Mo_trout 18 rfl) (by decide) rfl rfl) ?_
        have L35 : ∀ (y0 : Nat) (y1 : Int32) (y2 : Int32) (y3 : Int32) (hy0 : jkd y0 12) (n : Nat) (x4 : Int32) (x5 : Int32) (M : SM), J (fun (q11 : Int32 × SM) => Wk p l e R s m args below meth c G 6 Q 0 0 jN0 (jce G q11.2) 59 [none, none, none, none, some (.int q11.1), none] []) (lp_Mo_trout_35 y0 y1 y2 y3 n x4 x5 M) (Wk p l e R s m args below meth c G 6 Q 0 0 jN0 (jce G M) 35 [some (.ref y0), some (.int y1), some (.int y2), some (.int y3), some (.int x4), some (.int x5)] []) := by
          intro y0 y1 y2 y3 hy0 n
          induction n with
          | zero => intro x4 x5 M; exact J_none
          | succ n ih =>
            intro x4 x5 M
            unfold lp_Mo_trout_35
            refine J_mono (w_iload C (jd jdt_Mo_trout 19 rfl) rfl) ?_
            refine J_mono (w_iload_n C (jd jdt_Mo_trout 20 rfl) rfl) ?_
            refine J_br (w_icmp_ge C (jd jdt_Mo_trout 21 rfl) rfl) (fun h7 => J_pos h7 ?_) (fun h7 => J_neg h7 ?_)
            · refine J_mono (w_aload_n C (jd jdt_Mo_trout 22 rfl) rfl) ?_
              refine J_mono (w_iload_n C (jd jdt_Mo_trout 23 rfl) rfl) ?_
              refine J_mono (w_iload_n C (jd jdt_Mo_trout 24 rfl) rfl) ?_
              refine J_bind (fun q8 hq8 => ?_)
              refine J_mono (jc_Mo_515 C hy0 (C_Mo_isLeft l G F y0 y1 y3 hy0 M hq8) rfl (Nat.le_trans (Nat.le_of_ble_eq_true rfl : 3 + 1 ≤ 4) hD) (jd jdt_Mo_trout 25 rfl)) ?_
              refine J_seq (fun (q9 : Int32) => Wk p l e R s m args below meth c G 6 Q 0 0 jN0 (jce G q8.2) 53 [some (.ref y0), some (.int y1), some (.int y2), some (.int y3), some (.int q9), some (.int x5)] []) ?_ (fun q9 hq9 => ?_)
              · refine J_br (w_if_eq (y := 0) C (jd jdt_Mo_trout 26 rfl) rfl) (fun h10 => J_pos h10 ?_) (fun h10 => J_neg h10 ?_)
                · exact J_some (fun hx => Wk_sb hx ⟨rfl, rfl, rfl, rfl, rfl, rfl, trivial⟩)
                · refine J_mono (w_iinc (v := x4 + 1) (ls' := [some (.ref y0), some (.int y1), some (.int y2), some (.int y3), some (.int (x4 + 1)), some (.int x5)]) C (jd jdt_Mo_trout 27 rfl) rfl rfl (by decide) rfl rfl) ?_
                  exact J_some (fun hx => Wk_sb hx ⟨rfl, rfl, rfl, rfl, rfl, rfl, trivial⟩)
              · refine J_mono (w_iinc (v := x5 + 1) (ls' := [some (.ref y0), some (.int y1), some (.int y2), some (.int y3), some (.int q9), some (.int (x5 + 1))]) C (jd jdt_Mo_trout 28 rfl) rfl rfl (by decide) rfl rfl) ?_
                refine J_mono (w_goto C (jd jdt_Mo_trout 29 rfl) rfl) ?_
                exact J_sub (ih q9 (x5 + 1) q8.2) ⟨rfl, rfl, rfl, rfl, rfl, rfl, trivial⟩
            · exact J_some (fun hx => Wk_sb hx ⟨rfl, trivial⟩)
        refine J_seq (fun (q11 : Int32 × SM) => Wk p l e R s m args below meth c G 6 Q 0 0 jN0 (jce G q11.2) 59 [none, none, none, none, some (.int q11.1), none] []) (J_sub (L35 a0 a1 a2 a3 hp0 jfuel 0 0 M) ⟨rfl, rfl, rfl, rfl, rfl, rfl, trivial⟩) (fun q11 hq11 => ?_)
        refine J_mono (w_iload C (jd jdt_Mo_trout 30 rfl) rfl) ?_
        exact J_some (fun hx => hR q11.1 q11.2 hx _ _ (jd jdt_Mo_trout 31 rfl) rfl)
end
theorem C_Mo_trout (l : Launch) (G : JG) (F : jF G = false) (a0 : Nat) (a1 : Int32) (a2 : Int32) (a3 : Int32) (hp0 : jkd a0 12) (M : SM) {q : (Int32 × SM)} (hf : f_Mo_trout a0 a1 a2 a3 M = some q) : jMet l jy_Mo_trout jb_Mo_trout 6 (some FieldType.int) 4 0 0 G [.ref a0, .int a1, .int a2, .int a3] jN0 (jce G M) (some (.int q.1)) jN0 (jce G q.2) :=
  j_met jo_Mo_trout (by decide) (Nat.le_of_ble_eq_true rfl) (fun p e s m args below meth c C hr hm => K_Mo_trout C F (Nat.le_refl _) a0 a1 a2 a3 hp0 M (fun t => t = q) (fun v M' hX pc ls hd hn => by cases hX; exact w_iret C hr hn hd) _ hf rfl)
def f_Mo_qKind (a0 : Nat) (M : SM) : Option (Int32 × SM) := (f_Mo_takes a0 (jpf a0 68) M).bind fun q1 => (if q1.1 = 0 then ((f_Mo_takes a0 (jpf a0 69) q1.2).bind fun q4 => if q4.1 = 0 then ((f_Mo_takes a0 (jpf a0 70) q4.2).bind fun q6 => if q6.1 = 0 then ((f_Mo_takes a0 (jpf a0 71) q6.2).bind fun q8 => if q8.1 = 0 then ((f_Mo_takes a0 (jpf a0 72) q8.2).bind fun q10 => if q10.1 = 0 then (some (5, q10.2)) else (some (4, q10.2))) else (some (3, q8.2))) else (some (2, q6.2))) else (some (1, q4.2))) else (some (0, q1.2)) : Option (Int32 × SM)).bind fun q2 => if q2.1 = 5 then ((f_Mo_asks a0 (jpf a0 73) q2.2).bind fun q13 => some (q2.1, q13)) else (some (q2.1, q2.2))
section
variable {p : Program} {l : Launch} {e : Env} {R : Room} {s : State} {m : MethodId} {args : Array Value} {below : List Frame} {meth : Method} {c : Code} {G : JG} {D : Nat} {Q : State → Prop}
set_option maxHeartbeats 4000000 in
set_option maxRecDepth 20000 in
theorem K_Mo_qKind (C : jCx p R s m args meth c G jb_Mo_qKind 2 D "SluicePitModel") (F : jF G = false) (hD : 5 ≤ D) (a0 : Nat) (hp0 : jkd a0 12) (M : SM) (X : (Int32 × SM) → Prop) (hR : ∀ v M', X (v, M') → ∀ (pc : Nat) (ls : List (Option Value)), decode jb_Mo_qKind pc = .ok (.ireturn, 1) → narrow FieldType.int (.int v) = .int v → Wk p l e R s m args below meth c G 2 Q 0 0 jN0 (jce G M') pc ls [.int v]) : J X (f_Mo_qKind a0 M) (Wk p l e R s m args below meth c G 2 Q 0 0 jN0 (jce G M) 0 [some (.ref a0), none] []) := by
  unfold f_Mo_qKind
  refine J_mono (w_aload_n C (jd jdt_Mo_qKind 0 rfl) rfl) ?_
  refine J_mono (w_aload_n C (jd jdt_Mo_qKind 1 rfl) rfl) ?_
  refine J_mono (jg_Mo_143 C hp0 (jd jdt_Mo_qKind 2 rfl)) ?_
  refine J_bind (fun q1 hq1 => ?_)
  refine J_mono (jc_Mo_245 C hp0 (C_Mo_takes l G F a0 (jpf a0 68) hp0 (jkf_12_68 hp0) M hq1) rfl (Nat.le_trans (Nat.le_of_ble_eq_true rfl : 3 + 1 ≤ 5) hD) (jd jdt_Mo_qKind 3 rfl)) ?_
  refine J_seq (fun (q2 : Int32 × SM) => Wk p l e R s m args below meth c G 2 Q 0 0 jN0 (jce G q2.2) 76 [some (.ref a0), none] [.int q2.1]) ?_ (fun q2 hq2 => ?_)
  · refine J_br (w_if_eq (y := 0) C (jd jdt_Mo_qKind 4 rfl) rfl) (fun h3 => J_pos h3 ?_) (fun h3 => J_neg h3 ?_)
    · refine J_mono (w_aload_n C (jd jdt_Mo_qKind 7 rfl) rfl) ?_
      refine J_mono (w_aload_n C (jd jdt_Mo_qKind 8 rfl) rfl) ?_
      refine J_mono (jg_Mo_146 C hp0 (jd jdt_Mo_qKind 9 rfl)) ?_
      refine J_bind (fun q4 hq4 => ?_)
      refine J_mono (jc_Mo_245 C hp0 (C_Mo_takes l G F a0 (jpf a0 69) hp0 (jkf_12_69 hp0) q1.2 hq4) rfl (Nat.le_trans (Nat.le_of_ble_eq_true rfl : 3 + 1 ≤ 5) hD) (jd jdt_Mo_qKind 10 rfl)) ?_
      refine J_br (w_if_eq (y := 0) C (jd jdt_Mo_qKind 11 rfl) rfl) (fun h5 => J_pos h5 ?_) (fun h5 => J_neg h5 ?_)
      · refine J_mono (w_aload_n C (jd jdt_Mo_qKind 14 rfl) rfl) ?_
        refine J_mono (w_aload_n C (jd jdt_Mo_qKind 15 rfl) rfl) ?_
        refine J_mono (jg_Mo_149 C hp0 (jd jdt_Mo_qKind 16 rfl)) ?_
        refine J_bind (fun q6 hq6 => ?_)
        refine J_mono (jc_Mo_245 C hp0 (C_Mo_takes l G F a0 (jpf a0 70) hp0 (jkf_12_70 hp0) q4.2 hq6) rfl (Nat.le_trans (Nat.le_of_ble_eq_true rfl : 3 + 1 ≤ 5) hD) (jd jdt_Mo_qKind 17 rfl)) ?_
        refine J_br (w_if_eq (y := 0) C (jd jdt_Mo_qKind 18 rfl) rfl) (fun h7 => J_pos h7 ?_) (fun h7 => J_neg h7 ?_)
        · refine J_mono (w_aload_n C (jd jdt_Mo_qKind 21 rfl) rfl) ?_
          refine J_mono (w_aload_n C (jd jdt_Mo_qKind 22 rfl) rfl) ?_
          refine J_mono (jg_Mo_152 C hp0 (jd jdt_Mo_qKind 23 rfl)) ?_
          refine J_bind (fun q8 hq8 => ?_)
          refine J_mono (jc_Mo_245 C hp0 (C_Mo_takes l G F a0 (jpf a0 71) hp0 (jkf_12_71 hp0) q6.2 hq8) rfl (Nat.le_trans (Nat.le_of_ble_eq_true rfl : 3 + 1 ≤ 5) hD) (jd jdt_Mo_qKind 24 rfl)) ?_
          refine J_br (w_if_eq (y := 0) C (jd jdt_Mo_qKind 25 rfl) rfl) (fun h9 => J_pos h9 ?_) (fun h9 => J_neg h9 ?_)
          · refine J_mono (w_aload_n C (jd jdt_Mo_qKind 28 rfl) rfl) ?_
            refine J_mono (w_aload_n C (jd jdt_Mo_qKind 29 rfl) rfl) ?_
            refine J_mono (jg_Mo_155 C hp0 (jd jdt_Mo_qKind 30 rfl)) ?_
            refine J_bind (fun q10 hq10 => ?_)
            refine J_mono (jc_Mo_245 C hp0 (C_Mo_takes l G F a0 (jpf a0 72) hp0 (jkf_12_72 hp0) q8.2 hq10) rfl (Nat.le_trans (Nat.le_of_ble_eq_true rfl : 3 + 1 ≤ 5) hD) (jd jdt_Mo_qKind 31 rfl)) ?_
            refine J_br (w_if_eq (y := 0) C (jd jdt_Mo_qKind 32 rfl) rfl) (fun h11 => J_pos h11 ?_) (fun h11 => J_neg h11 ?_)
            · refine J_mono (w_iconst_5 C (jd jdt_Mo_qKind 35 rfl)) ?_
              exact J_some (fun hx => Wk_sb hx ⟨rfl, trivial⟩)
            · refine J_mono (w_iconst_4 C (jd jdt_Mo_qKind 33 rfl)) ?_
              refine J_mono (w_goto C (jd jdt_Mo_qKind 34 rfl) rfl) ?_
              exact J_some (fun hx => Wk_sb hx ⟨rfl, trivial⟩)
          · refine J_mono (w_iconst_3 C (jd jdt_Mo_qKind 26 rfl)) ?_
            refine J_mono (w_goto C (jd jdt_Mo_qKind 27 rfl) rfl) ?_
            exact J_some (fun hx => Wk_sb hx ⟨rfl, trivial⟩)
        · refine J_mono (w_iconst_2 C (jd jdt_Mo_qKind 19 rfl)) ?_
          refine J_mono (w_goto C (jd jdt_Mo_qKind 20 rfl) rfl) ?_
          exact J_some (fun hx => Wk_sb hx ⟨rfl, trivial⟩)
      · refine J_mono (w_iconst_1 C (jd jdt_Mo_qKind 12 rfl)) ?_
        refine J_mono (w_goto C (jd jdt_Mo_qKind 13 rfl) rfl) ?_
        exact J_some (fun hx => Wk_sb hx ⟨rfl, trivial⟩)
    · refine J_mono (w_iconst_0 C (jd jdt_Mo_qKind 5 rfl)) ?_
      refine J_mono (w_goto C (jd jdt_Mo_qKind 6 rfl) rfl) ?_
      exact J_some (fun hx => Wk_sb hx ⟨rfl, trivial⟩)
  · refine J_mono (w_istore_n (ls' := [some (.ref a0), some (.int q2.1)]) C (jd jdt_Mo_qKind 36 rfl) (by decide) rfl rfl) ?_
    refine J_mono (w_iload_n C (jd jdt_Mo_qKind 37 rfl) rfl) ?_
    refine J_mono (w_iconst_5 C (jd jdt_Mo_qKind 38 rfl)) ?_
    refine J_br (w_icmp_ne C (jd jdt_Mo_qKind 39 rfl) rfl) (fun h12 => J_pos h12 ?_) (fun h12 => J_neg h12 ?_)
    · refine J_mono (w_aload_n C (jd jdt_Mo_qKind 40 rfl) rfl) ?_
      refine J_mono (w_aload_n C (jd jdt_Mo_qKind 41 rfl) rfl) ?_
      refine J_mono (jg_Mo_158 C hp0 (jd jdt_Mo_qKind 42 rfl)) ?_
      refine J_bind (fun q13 hq13 => ?_)
      refine J_mono (jc_Mo_304 C hp0 (C_Mo_asks l G F a0 (jpf a0 73) hp0 (jkf_12_73 hp0) q2.2 hq13) rfl (Nat.le_trans (Nat.le_of_ble_eq_true rfl : 4 + 1 ≤ 5) hD) (jd jdt_Mo_qKind 43 rfl)) ?_
      refine J_mono (w_iload_n C (jd jdt_Mo_qKind 44 rfl) rfl) ?_
      exact J_some (fun hx => hR q2.1 q13 hx _ _ (jd jdt_Mo_qKind 45 rfl) rfl)
    · refine J_mono (w_iload_n C (jd jdt_Mo_qKind 44 rfl) rfl) ?_
      exact J_some (fun hx => hR q2.1 q2.2 hx _ _ (jd jdt_Mo_qKind 45 rfl) rfl)
end
theorem C_Mo_qKind (l : Launch) (G : JG) (F : jF G = false) (a0 : Nat) (hp0 : jkd a0 12) (M : SM) {q : (Int32 × SM)} (hf : f_Mo_qKind a0 M = some q) : jMet l jy_Mo_qKind jb_Mo_qKind 2 (some FieldType.int) 5 0 0 G [.ref a0] jN0 (jce G M) (some (.int q.1)) jN0 (jce G q.2) :=
  j_met jo_Mo_qKind (by decide) (Nat.le_of_ble_eq_true rfl) (fun p e s m args below meth c C hr hm => K_Mo_qKind C F (Nat.le_refl _) a0 hp0 M (fun t => t = q) (fun v M' hX pc ls hd hn => by cases hX; exact w_iret C hr hn hd) _ hf rfl)
def f_Mo_qOpens (a0 : Nat) (a1 : Int32) (a2 : Int32) (M : SM) : Option SM := if (M.1 a0 5) = 0 then (if (M.1 a0 92) = 6 then ((f_Mo_fail a0 4 a2 M).bind fun q3 => some q3) else ((aS (sI M a0 92 ((M.1 a0 92) + 1)) (jpf a0 90) ((sI M a0 92 ((M.1 a0 92) + 1)).1 a0 91) a1).bind fun M4 => some (sI M4 a0 91 ((M4.1 a0 91) + 1)))) else (some M)
section
variable {p : Program} {l : Launch} {e : Env} {R : Room} {s : State} {m : MethodId} {args : Array Value} {below : List Frame} {meth : Method} {c : Code} {G : JG} {D : Nat} {Q : State → Prop}
set_option maxHeartbeats 4000000 in
set_option maxRecDepth 20000 in
theorem K_Mo_qOpens (C : jCx p R s m args meth c G jb_Mo_qOpens 3 D "SluicePitModel") (F : jF G = false) (hD : 2 ≤ D) (a0 : Nat) (a1 : Int32) (a2 : Int32) (hp0 : jkd a0 12) (M : SM) (X : SM → Prop) (hR : ∀ M', X M' → ∀ (pc : Nat) (ls : List (Option Value)), decode jb_Mo_qOpens pc = .ok (.return_, 1) → Wk p l e R s m args below meth c G 3 Q 0 0 jN0 (jce G M') pc ls []) : J X (f_Mo_qOpens a0 a1 a2 M) (Wk p l e R s m args below meth c G 3 Q 0 0 jN0 (jce G M) 0 [some (.ref a0), some (.int a1), some (.int a2)] []) := by
  unfold f_Mo_qOpens
  refine J_mono (w_aload_n C (jd jdt_Mo_qOpens 0 rfl) rfl) ?_
  refine J_mono (jg_Mo_218 C hp0 (jd jdt_Mo_qOpens 1 rfl)) ?_
  refine J_br (w_if_eq (y := 0) C (jd jdt_Mo_qOpens 2 rfl) rfl) (fun h1 => J_pos h1 ?_) (fun h1 => J_neg h1 ?_)
  · refine J_mono (w_aload_n C (jd jdt_Mo_qOpens 4 rfl) rfl) ?_
    refine J_mono (jg_Mo_521 C hp0 (jd jdt_Mo_qOpens 5 rfl)) ?_
    refine J_mono (w_bipush_6 C (jd jdt_Mo_qOpens 6 rfl)) ?_
    refine J_br (w_icmp_ne C (jd jdt_Mo_qOpens 7 rfl) rfl) (fun h2 => J_pos h2 ?_) (fun h2 => J_neg h2 ?_)
    · refine J_mono (w_aload_n C (jd jdt_Mo_qOpens 8 rfl) rfl) ?_
      refine J_mono (w_iconst_4 C (jd jdt_Mo_qOpens 9 rfl)) ?_
      refine J_mono (w_iload_n C (jd jdt_Mo_qOpens 10 rfl) rfl) ?_
      refine J_bind (fun q3 hq3 => ?_)
      refine J_mono (jc_Mo_248 C hp0 (C_Mo_fail l G F a0 4 a2 hp0 M hq3) rfl (Nat.le_trans (Nat.le_of_ble_eq_true rfl : 1 + 1 ≤ 2) hD) (jd jdt_Mo_qOpens 11 rfl)) ?_
      exact J_some (fun hx => hR q3 hx _ _ (jd jdt_Mo_qOpens 12 rfl))
    · refine J_mono (w_aload_n C (jd jdt_Mo_qOpens 13 rfl) rfl) ?_
      refine J_mono (w_dup_r C (jd jdt_Mo_qOpens 14 rfl)) ?_
      refine J_mono (jg_Mo_521 C hp0 (jd jdt_Mo_qOpens 15 rfl)) ?_
      refine J_mono (w_iconst_1 C (jd jdt_Mo_qOpens 16 rfl)) ?_
      refine J_mono (w_iadd C (jd jdt_Mo_qOpens 17 rfl)) ?_
      refine J_mono (jp_Mo_521 C F hp0 (jd jdt_Mo_qOpens 18 rfl)) ?_
      refine J_mono (w_aload_n C (jd jdt_Mo_qOpens 19 rfl) rfl) ?_
      refine J_mono (jg_Mo_206 C hp0 (jd jdt_Mo_qOpens 20 rfl)) ?_
      refine J_mono (w_aload_n C (jd jdt_Mo_qOpens 21 rfl) rfl) ?_
      refine J_mono (jg_Mo_524 C hp0 (jd jdt_Mo_qOpens 22 rfl)) ?_
      refine J_mono (w_iload_n C (jd jdt_Mo_qOpens 23 rfl) rfl) ?_
      refine J_bind (fun M4 hM4 => ?_)
      refine J_mono (w_iast C F (jkf_12_90 hp0) hM4 (jd jdt_Mo_qOpens 24 rfl)) ?_
      refine J_mono (w_aload_n C (jd jdt_Mo_qOpens 25 rfl) rfl) ?_
      refine J_mono (w_dup_r C (jd jdt_Mo_qOpens 26 rfl)) ?_
      refine J_mono (jg_Mo_524 C hp0 (jd jdt_Mo_qOpens 27 rfl)) ?_
      refine J_mono (w_iconst_1 C (jd jdt_Mo_qOpens 28 rfl)) ?_
      refine J_mono (w_iadd C (jd jdt_Mo_qOpens 29 rfl)) ?_
      refine J_mono (jp_Mo_524 C F hp0 (jd jdt_Mo_qOpens 30 rfl)) ?_
      exact J_some (fun hx => hR (sI M4 a0 91 ((M4.1 a0 91) + 1)) hx _ _ (jd jdt_Mo_qOpens 31 rfl))
  · exact J_some (fun hx => hR M hx _ _ (jd jdt_Mo_qOpens 3 rfl))
end
theorem C_Mo_qOpens (l : Launch) (G : JG) (F : jF G = false) (a0 : Nat) (a1 : Int32) (a2 : Int32) (hp0 : jkd a0 12) (M : SM) {q : SM} (hf : f_Mo_qOpens a0 a1 a2 M = some q) : jMet l jy_Mo_qOpens jb_Mo_qOpens 3 none 2 0 0 G [.ref a0, .int a1, .int a2] jN0 (jce G M) none jN0 (jce G q) :=
  j_met jo_Mo_qOpens (by decide) (Nat.le_of_ble_eq_true rfl) (fun p e s m args below meth c C hr hm => K_Mo_qOpens C F (Nat.le_refl _) a0 a1 a2 hp0 M (fun t => t = q) (fun M' hX pc ls hd => by cases hX; exact w_vret C hr hd) _ hf rfl)
def f_Mo_qCode (a0 : Nat) (a1 : Int32) (M : SM) : Option SM := (aS M (jpf a0 88) (M.1 a0 89) a1).bind fun M1 => some (sI M1 a0 89 ((M1.1 a0 89) + 1))
section
variable {p : Program} {l : Launch} {e : Env} {R : Room} {s : State} {m : MethodId} {args : Array Value} {below : List Frame} {meth : Method} {c : Code} {G : JG} {D : Nat} {Q : State → Prop}
set_option maxHeartbeats 4000000 in
set_option maxRecDepth 20000 in
theorem K_Mo_qCode (C : jCx p R s m args meth c G jb_Mo_qCode 2 D "SluicePitModel") (F : jF G = false) (hD : 1 ≤ D) (a0 : Nat) (a1 : Int32) (hp0 : jkd a0 12) (M : SM) (X : SM → Prop) (hR : ∀ M', X M' → ∀ (pc : Nat) (ls : List (Option Value)), decode jb_Mo_qCode pc = .ok (.return_, 1) → Wk p l e R s m args below meth c G 2 Q 0 0 jN0 (jce G M') pc ls []) : J X (f_Mo_qCode a0 a1 M) (Wk p l e R s m args below meth c G 2 Q 0 0 jN0 (jce G M) 0 [some (.ref a0), some (.int a1)] []) := by
  unfold f_Mo_qCode
  refine J_mono (w_aload_n C (jd jdt_Mo_qCode 0 rfl) rfl) ?_
  refine J_mono (jg_Mo_203 C hp0 (jd jdt_Mo_qCode 1 rfl)) ?_
  refine J_mono (w_aload_n C (jd jdt_Mo_qCode 2 rfl) rfl) ?_
  refine J_mono (jg_Mo_518 C hp0 (jd jdt_Mo_qCode 3 rfl)) ?_
  refine J_mono (w_iload_n C (jd jdt_Mo_qCode 4 rfl) rfl) ?_
  refine J_bind (fun M1 hM1 => ?_)
  refine J_mono (w_iast C F (jkf_12_88 hp0) hM1 (jd jdt_Mo_qCode 5 rfl)) ?_
  refine J_mono (w_aload_n C (jd jdt_Mo_qCode 6 rfl) rfl) ?_
  refine J_mono (w_dup_r C (jd jdt_Mo_qCode 7 rfl)) ?_
  refine J_mono (jg_Mo_518 C hp0 (jd jdt_Mo_qCode 8 rfl)) ?_
  refine J_mono (w_iconst_1 C (jd jdt_Mo_qCode 9 rfl)) ?_
  refine J_mono (w_iadd C (jd jdt_Mo_qCode 10 rfl)) ?_
  refine J_mono (jp_Mo_518 C F hp0 (jd jdt_Mo_qCode 11 rfl)) ?_
  exact J_some (fun hx => hR (sI M1 a0 89 ((M1.1 a0 89) + 1)) hx _ _ (jd jdt_Mo_qCode 12 rfl))
end
theorem C_Mo_qCode (l : Launch) (G : JG) (F : jF G = false) (a0 : Nat) (a1 : Int32) (hp0 : jkd a0 12) (M : SM) {q : SM} (hf : f_Mo_qCode a0 a1 M = some q) : jMet l jy_Mo_qCode jb_Mo_qCode 2 none 1 0 0 G [.ref a0, .int a1] jN0 (jce G M) none jN0 (jce G q) :=
  j_met jo_Mo_qCode (by decide) (Nat.le_of_ble_eq_true rfl) (fun p e s m args below meth c C hr hm => K_Mo_qCode C F (Nat.le_refl _) a0 a1 hp0 M (fun t => t = q) (fun M' hX pc ls hd => by cases hX; exact w_vret C hr hd) _ hf rfl)
def f_Mo_qWordHere (a0 : Nat) (M : SM) : Option (Int32 × SM) := (f_Mo_isHere a0 (jpf a0 80) M).bind fun q1 => if q1.1 = 0 then ((f_Mo_isHere a0 (jpf a0 81) q1.2).bind fun q3 => if q3.1 = 0 then ((f_Mo_isHere a0 (jpf a0 82) q3.2).bind fun q5 => if q5.1 = 0 then ((f_Mo_isHere a0 (jpf a0 83) q5.2).bind fun q7 => if q7.1 = 0 then ((f_Mo_isHere a0 (jpf a0 84) q7.2).bind fun q9 => if q9.1 = 0 then ((f_Mo_isHere a0 (jpf a0 85) q9.2).bind fun q11 => if q11.1 = 0 then ((f_Mo_isHere a0 (jpf a0 86) q11.2).bind fun q13 => if q13.1 = 0 then ((f_Mo_isHere a0 (jpf a0 87) q13.2).bind fun q15 => if q15.1 = 0 then (some ((-1), q15.2)) else (some (7, q15.2))) else (some (6, q13.2))) else (some (5, q11.2))) else (some (4, q9.2))) else (some (3, q7.2))) else (some (2, q5.2))) else (some (1, q3.2))) else (some (0, q1.2))
section
variable {p : Program} {l : Launch} {e : Env} {R : Room} {s : State} {m : MethodId} {args : Array Value} {below : List Frame} {meth : Method} {c : Code} {G : JG} {D : Nat} {Q : State → Prop}
set_option maxHeartbeats 4000000 in
set_option maxRecDepth 20000 in
theorem K_Mo_qWordHere (C : jCx p R s m args meth c G jb_Mo_qWordHere 1 D "SluicePitModel") (F : jF G = false) (hD : 3 ≤ D) (a0 : Nat) (hp0 : jkd a0 12) (M : SM) (X : (Int32 × SM) → Prop) (hR : ∀ v M', X (v, M') → ∀ (pc : Nat) (ls : List (Option Value)), decode jb_Mo_qWordHere pc = .ok (.ireturn, 1) → narrow FieldType.int (.int v) = .int v → Wk p l e R s m args below meth c G 1 Q 0 0 jN0 (jce G M') pc ls [.int v]) : J X (f_Mo_qWordHere a0 M) (Wk p l e R s m args below meth c G 1 Q 0 0 jN0 (jce G M) 0 [some (.ref a0)] []) := by
  unfold f_Mo_qWordHere
  refine J_mono (w_aload_n C (jd jdt_Mo_qWordHere 0 rfl) rfl) ?_
  refine J_mono (w_aload_n C (jd jdt_Mo_qWordHere 1 rfl) rfl) ?_
  refine J_mono (jg_Mo_179 C hp0 (jd jdt_Mo_qWordHere 2 rfl)) ?_
  refine J_bind (fun q1 hq1 => ?_)
  refine J_mono (jc_Mo_241 C hp0 (C_Mo_isHere l G F a0 (jpf a0 80) hp0 (jkf_12_80 hp0) M hq1) rfl (Nat.le_trans (Nat.le_of_ble_eq_true rfl : 2 + 1 ≤ 3) hD) (jd jdt_Mo_qWordHere 3 rfl)) ?_
  refine J_br (w_if_eq (y := 0) C (jd jdt_Mo_qWordHere 4 rfl) rfl) (fun h2 => J_pos h2 ?_) (fun h2 => J_neg h2 ?_)
  · refine J_mono (w_aload_n C (jd jdt_Mo_qWordHere 7 rfl) rfl) ?_
    refine J_mono (w_aload_n C (jd jdt_Mo_qWordHere 8 rfl) rfl) ?_
    refine J_mono (jg_Mo_182 C hp0 (jd jdt_Mo_qWordHere 9 rfl)) ?_
    refine J_bind (fun q3 hq3 => ?_)
    refine J_mono (jc_Mo_241 C hp0 (C_Mo_isHere l G F a0 (jpf a0 81) hp0 (jkf_12_81 hp0) q1.2 hq3) rfl (Nat.le_trans (Nat.le_of_ble_eq_true rfl : 2 + 1 ≤ 3) hD) (jd jdt_Mo_qWordHere 10 rfl)) ?_
    refine J_br (w_if_eq (y := 0) C (jd jdt_Mo_qWordHere 11 rfl) rfl) (fun h4 => J_pos h4 ?_) (fun h4 => J_neg h4 ?_)
    · refine J_mono (w_aload_n C (jd jdt_Mo_qWordHere 14 rfl) rfl) ?_
      refine J_mono (w_aload_n C (jd jdt_Mo_qWordHere 15 rfl) rfl) ?_
      refine J_mono (jg_Mo_185 C hp0 (jd jdt_Mo_qWordHere 16 rfl)) ?_
      refine J_bind (fun q5 hq5 => ?_)
      refine J_mono (jc_Mo_241 C hp0 (C_Mo_isHere l G F a0 (jpf a0 82) hp0 (jkf_12_82 hp0) q3.2 hq5) rfl (Nat.le_trans (Nat.le_of_ble_eq_true rfl : 2 + 1 ≤ 3) hD) (jd jdt_Mo_qWordHere 17 rfl)) ?_
      refine J_br (w_if_eq (y := 0) C (jd jdt_Mo_qWordHere 18 rfl) rfl) (fun h6 => J_pos h6 ?_) (fun h6 => J_neg h6 ?_)
      · refine J_mono (w_aload_n C (jd jdt_Mo_qWordHere 21 rfl) rfl) ?_
        refine J_mono (w_aload_n C (jd jdt_Mo_qWordHere 22 rfl) rfl) ?_
        refine J_mono (jg_Mo_188 C hp0 (jd jdt_Mo_qWordHere 23 rfl)) ?_
        refine J_bind (fun q7 hq7 => ?_)
        refine J_mono (jc_Mo_241 C hp0 (C_Mo_isHere l G F a0 (jpf a0 83) hp0 (jkf_12_83 hp0) q5.2 hq7) rfl (Nat.le_trans (Nat.le_of_ble_eq_true rfl : 2 + 1 ≤ 3) hD) (jd jdt_Mo_qWordHere 24 rfl)) ?_
        refine J_br (w_if_eq (y := 0) C (jd jdt_Mo_qWordHere 25 rfl) rfl) (fun h8 => J_pos h8 ?_) (fun h8 => J_neg h8 ?_)
        · refine J_mono (w_aload_n C (jd jdt_Mo_qWordHere 28 rfl) rfl) ?_
          refine J_mono (w_aload_n C (jd jdt_Mo_qWordHere 29 rfl) rfl) ?_
          refine J_mono (jg_Mo_191 C hp0 (jd jdt_Mo_qWordHere 30 rfl)) ?_
          refine J_bind (fun q9 hq9 => ?_)
          refine J_mono (jc_Mo_241 C hp0 (C_Mo_isHere l G F a0 (jpf a0 84) hp0 (jkf_12_84 hp0) q7.2 hq9) rfl (Nat.le_trans (Nat.le_of_ble_eq_true rfl : 2 + 1 ≤ 3) hD) (jd jdt_Mo_qWordHere 31 rfl)) ?_
          refine J_br (w_if_eq (y := 0) C (jd jdt_Mo_qWordHere 32 rfl) rfl) (fun h10 => J_pos h10 ?_) (fun h10 => J_neg h10 ?_)
          · refine J_mono (w_aload_n C (jd jdt_Mo_qWordHere 35 rfl) rfl) ?_
            refine J_mono (w_aload_n C (jd jdt_Mo_qWordHere 36 rfl) rfl) ?_
            refine J_mono (jg_Mo_194 C hp0 (jd jdt_Mo_qWordHere 37 rfl)) ?_
            refine J_bind (fun q11 hq11 => ?_)
            refine J_mono (jc_Mo_241 C hp0 (C_Mo_isHere l G F a0 (jpf a0 85) hp0 (jkf_12_85 hp0) q9.2 hq11) rfl (Nat.le_trans (Nat.le_of_ble_eq_true rfl : 2 + 1 ≤ 3) hD) (jd jdt_Mo_qWordHere 38 rfl)) ?_
            refine J_br (w_if_eq (y := 0) C (jd jdt_Mo_qWordHere 39 rfl) rfl) (fun h12 => J_pos h12 ?_) (fun h12 => J_neg h12 ?_)
            · refine J_mono (w_aload_n C (jd jdt_Mo_qWordHere 42 rfl) rfl) ?_
              refine J_mono (w_aload_n C (jd jdt_Mo_qWordHere 43 rfl) rfl) ?_
              refine J_mono (jg_Mo_197 C hp0 (jd jdt_Mo_qWordHere 44 rfl)) ?_
              refine J_bind (fun q13 hq13 => ?_)
              refine J_mono (jc_Mo_241 C hp0 (C_Mo_isHere l G F a0 (jpf a0 86) hp0 (jkf_12_86 hp0) q11.2 hq13) rfl (Nat.le_trans (Nat.le_of_ble_eq_true rfl : 2 + 1 ≤ 3) hD) (jd jdt_Mo_qWordHere 45 rfl)) ?_
              refine J_br (w_if_eq (y := 0) C (jd jdt_Mo_qWordHere 46 rfl) rfl) (fun h14 => J_pos h14 ?_) (fun h14 => J_neg h14 ?_)
              · refine J_mono (w_aload_n C (jd jdt_Mo_qWordHere 49 rfl) rfl) ?_
                refine J_mono (w_aload_n C (jd jdt_Mo_qWordHere 50 rfl) rfl) ?_
                refine J_mono (jg_Mo_200 C hp0 (jd jdt_Mo_qWordHere 51 rfl)) ?_
                refine J_bind (fun q15 hq15 => ?_)
                refine J_mono (jc_Mo_241 C hp0 (C_Mo_isHere l G F a0 (jpf a0 87) hp0 (jkf_12_87 hp0) q13.2 hq15) rfl (Nat.le_trans (Nat.le_of_ble_eq_true rfl : 2 + 1 ≤ 3) hD) (jd jdt_Mo_qWordHere 52 rfl)) ?_
                refine J_br (w_if_eq (y := 0) C (jd jdt_Mo_qWordHere 53 rfl) rfl) (fun h16 => J_pos h16 ?_) (fun h16 => J_neg h16 ?_)
                · refine J_mono (w_iconst_m1 C (jd jdt_Mo_qWordHere 56 rfl)) ?_
                  exact J_some (fun hx => hR (-1) q15.2 hx _ _ (jd jdt_Mo_qWordHere 57 rfl) rfl)
                · refine J_mono (w_bipush_7 C (jd jdt_Mo_qWordHere 54 rfl)) ?_
                  exact J_some (fun hx => hR 7 q15.2 hx _ _ (jd jdt_Mo_qWordHere 55 rfl) rfl)
              · refine J_mono (w_bipush_6 C (jd jdt_Mo_qWordHere 47 rfl)) ?_
                exact J_some (fun hx => hR 6 q13.2 hx _ _ (jd jdt_Mo_qWordHere 48 rfl) rfl)
            · refine J_mono (w_iconst_5 C (jd jdt_Mo_qWordHere 40 rfl)) ?_
              exact J_some (fun hx => hR 5 q11.2 hx _ _ (jd jdt_Mo_qWordHere 41 rfl) rfl)
          · refine J_mono (w_iconst_4 C (jd jdt_Mo_qWordHere 33 rfl)) ?_
            exact J_some (fun hx => hR 4 q9.2 hx _ _ (jd jdt_Mo_qWordHere 34 rfl) rfl)
        · refine J_mono (w_iconst_3 C (jd jdt_Mo_qWordHere 26 rfl)) ?_
          exact J_some (fun hx => hR 3 q7.2 hx _ _ (jd jdt_Mo_qWordHere 27 rfl) rfl)
      · refine J_mono (w_iconst_2 C (jd jdt_Mo_qWordHere 19 rfl)) ?_
        exact J_some (fun hx => hR 2 q5.2 hx _ _ (jd jdt_Mo_qWordHere 20 rfl) rfl)
    · refine J_mono (w_iconst_1 C (jd jdt_Mo_qWordHere 12 rfl)) ?_
      exact J_some (fun hx => hR 1 q3.2 hx _ _ (jd jdt_Mo_qWordHere 13 rfl) rfl)
  · refine J_mono (w_iconst_0 C (jd jdt_Mo_qWordHere 5 rfl)) ?_
    exact J_some (fun hx => hR 0 q1.2 hx _ _ (jd jdt_Mo_qWordHere 6 rfl) rfl)
end
theorem C_Mo_qWordHere (l : Launch) (G : JG) (F : jF G = false) (a0 : Nat) (hp0 : jkd a0 12) (M : SM) {q : (Int32 × SM)} (hf : f_Mo_qWordHere a0 M = some q) : jMet l jy_Mo_qWordHere jb_Mo_qWordHere 1 (some FieldType.int) 3 0 0 G [.ref a0] jN0 (jce G M) (some (.int q.1)) jN0 (jce G q.2) :=
  j_met jo_Mo_qWordHere (by decide) (Nat.le_of_ble_eq_true rfl) (fun p e s m args below meth c C hr hm => K_Mo_qWordHere C F (Nat.le_refl _) a0 hp0 M (fun t => t = q) (fun v M' hX pc ls hd hn => by cases hX; exact w_iret C hr hn hd) _ hf rfl)
def f_Mo_qWordOf (a0 : Nat) (a1 : Int32) (a2 : Int32) (M : SM) : Option (Int32 × SM) := (f_Mo_qWordHere a0 M).bind fun q1 => if q1.1 < a1 then (some ((-1), q1.2)) else (if q1.1 < a2 then (some (q1.1, q1.2)) else (some ((-1), q1.2)))
section
variable {p : Program} {l : Launch} {e : Env} {R : Room} {s : State} {m : MethodId} {args : Array Value} {below : List Frame} {meth : Method} {c : Code} {G : JG} {D : Nat} {Q : State → Prop}
set_option maxHeartbeats 4000000 in
set_option maxRecDepth 20000 in
theorem K_Mo_qWordOf (C : jCx p R s m args meth c G jb_Mo_qWordOf 4 D "SluicePitModel") (F : jF G = false) (hD : 4 ≤ D) (a0 : Nat) (a1 : Int32) (a2 : Int32) (hp0 : jkd a0 12) (M : SM) (X : (Int32 × SM) → Prop) (hR : ∀ v M', X (v, M') → ∀ (pc : Nat) (ls : List (Option Value)), decode jb_Mo_qWordOf pc = .ok (.ireturn, 1) → narrow FieldType.int (.int v) = .int v → Wk p l e R s m args below meth c G 4 Q 0 0 jN0 (jce G M') pc ls [.int v]) : J X (f_Mo_qWordOf a0 a1 a2 M) (Wk p l e R s m args below meth c G 4 Q 0 0 jN0 (jce G M) 0 [some (.ref a0), some (.int a1), some (.int a2), none] []) := by
  unfold f_Mo_qWordOf
  refine J_mono (w_aload_n C (jd jdt_Mo_qWordOf 0 rfl) rfl) ?_
  refine J_bind (fun q1 hq1 => ?_)
  refine J_mono (jc_Mo_539 C hp0 (C_Mo_qWordHere l G F a0 hp0 M hq1) rfl (Nat.le_trans (Nat.le_of_ble_eq_true rfl : 3 + 1 ≤ 4) hD) (jd jdt_Mo_qWordOf 1 rfl)) ?_
  refine J_mono (w_istore_n (ls' := [some (.ref a0), some (.int a1), some (.int a2), some (.int q1.1)]) C (jd jdt_Mo_qWordOf 2 rfl) (by decide) rfl rfl) ?_
  refine J_mono (w_iload_n C (jd jdt_Mo_qWordOf 3 rfl) rfl) ?_
  refine J_mono (w_iload_n C (jd jdt_Mo_qWordOf 4 rfl) rfl) ?_
  refine J_br (w_icmp_lt C (jd jdt_Mo_qWordOf 5 rfl) rfl) (fun h2 => J_pos h2 ?_) (fun h2 => J_neg h2 ?_)
  · refine J_mono (w_iconst_m1 C (jd jdt_Mo_qWordOf 11 rfl)) ?_
    exact J_some (fun hx => hR (-1) q1.2 hx _ _ (jd jdt_Mo_qWordOf 12 rfl) rfl)
  · refine J_mono (w_iload_n C (jd jdt_Mo_qWordOf 6 rfl) rfl) ?_
    refine J_mono (w_iload_n C (jd jdt_Mo_qWordOf 7 rfl) rfl) ?_
    refine J_br (w_icmp_ge C (jd jdt_Mo_qWordOf 8 rfl) rfl) (fun h3 => J_pos h3 ?_) (fun h3 => J_neg h3 ?_)
    · refine J_mono (w_iload_n C (jd jdt_Mo_qWordOf 9 rfl) rfl) ?_
      refine J_mono (w_goto C (jd jdt_Mo_qWordOf 10 rfl) rfl) ?_
      exact J_some (fun hx => hR q1.1 q1.2 hx _ _ (jd jdt_Mo_qWordOf 12 rfl) rfl)
    · refine J_mono (w_iconst_m1 C (jd jdt_Mo_qWordOf 11 rfl)) ?_
      exact J_some (fun hx => hR (-1) q1.2 hx _ _ (jd jdt_Mo_qWordOf 12 rfl) rfl)
end
theorem C_Mo_qWordOf (l : Launch) (G : JG) (F : jF G = false) (a0 : Nat) (a1 : Int32) (a2 : Int32) (hp0 : jkd a0 12) (M : SM) {q : (Int32 × SM)} (hf : f_Mo_qWordOf a0 a1 a2 M = some q) : jMet l jy_Mo_qWordOf jb_Mo_qWordOf 4 (some FieldType.int) 4 0 0 G [.ref a0, .int a1, .int a2] jN0 (jce G M) (some (.int q.1)) jN0 (jce G q.2) :=
  j_met jo_Mo_qWordOf (by decide) (Nat.le_of_ble_eq_true rfl) (fun p e s m args below meth c C hr hm => K_Mo_qWordOf C F (Nat.le_refl _) a0 a1 a2 hp0 M (fun t => t = q) (fun v M' hX pc ls hd hn => by cases hX; exact w_iret C hr hn hd) _ hf rfl)
