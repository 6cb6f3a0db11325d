def lp_Sp_early_63 (y0 : Nat) (y1 : Int32) (y2 : Int32) (y4 : Int32) (y5 : Int32) : Nat → Int32 → Int32 → SM → Option ((Int32 × SM) ⊕ (Int32 × SM))
  | 0, _, _, _ => none
  | n + 1, x3, x6, M => if y5 < x6 then (some (.inl (x3, M))) else ((f_Sp_isWetWithout y0 y4 x6 y1 M).bind fun q8 => if q8.1 = 0 then (lp_Sp_early_63 y0 y1 y2 y4 y5 n x3 (x6 + 1) q8.2) else (if x3 = y2 then (some (.inr ((100 * y4) + x6, q8.2))) else (lp_Sp_early_63 y0 y1 y2 y4 y5 n (x3 + 1) (x6 + 1) q8.2)))
def lp_Sp_early_30 (y0 : Nat) (y1 : Int32) (y2 : Int32) : Nat → Int32 → Int32 → SM → Option ((Int32 × SM) ⊕ (Int32 × SM))
  | 0, _, _, _ => none
  | n + 1, x3, x4, M => if x4 < (M.1 (jop (M.1 y0 8)) 4) then ((f_Pa_size (jpf (jop (M.1 y0 8)) 13) x4 M).bind fun q6 => jsb (lp_Sp_early_63 y0 y1 y2 x4 (jmin y1 q6) jfuel x3 1 M) Sum.inr fun q11 => lp_Sp_early_30 y0 y1 y2 n q11.1 (x4 + 1) q11.2) else (some (.inl (x3, M)))
def f_Sp_early (a0 : Nat) (a1 : Int32) (a2 : Int32) (M : SM) : Option (Int32 × SM) := if (M.1 a0 11) = 0 then (some ((-1), M)) else (if a1 < 1 then (some ((-1), M)) else (if 60 < a1 then (some ((-1), M)) else (if a2 < (-1) then (some ((-1), M)) else (jsb (lp_Sp_early_30 a0 a1 a2 jfuel 0 0 M) id fun q12 => if a2 = (-1) then (some (q12.1, q12.2)) else (some ((-1), q12.2))))))
section
variable {p : Program} {l : Launch} {e : Env} {R : Room} {s : State} {m : MethodId} {args : Array Value} {below : List Frame} {meth : Method} {c : Code} {G : JG} {D : Nat} {Q : State → Prop}
set_option maxHeartbeats 4000000 in
set_option maxRecDepth 20000 in
theorem K_Sp_early (C : jCx p R s m args meth c G jb_Sp_early 7 D "SluicePit") (F : jF G = false) (hD : 10 ≤ D) (a0 : Nat) (a1 : Int32) (a2 : Int32) (hp0 : jkd a0 11) (M : SM) (X : (Int32 × SM) → Prop) (hR : ∀ v M', X (v, M') → ∀ (pc : Nat) (ls : List (Option Value)), decode jb_Sp_early pc = .ok (.ireturn, 1) → narrow FieldType.int (.int v) = .int v → Wk p l e R s m args below meth c G 7 Q 0 0 jN0 (jce G M') pc ls [.int v]) : J X (f_Sp_early a0 a1 a2 M) (Wk p l e R s m args below meth c G 7 Q 0 0 jN0 (jce G M) 0 [some (.ref a0), some (.int a1), some (.int a2), none, none, none, none] []) := by
  unfold f_Sp_early
  refine J_mono (w_aload_n C (jd jdt_Sp_early 0 rfl) rfl) ?_
  refine J_mono (jg_Sp_87 C hp0 (jd jdt_Sp_early 1 rfl)) ?_
  refine J_br (w_if_eq (y := 0) C (jd jdt_Sp_early 2 rfl) rfl) (fun h1 => J_pos h1 ?_) (fun h1 => J_neg h1 ?_)
  · refine J_mono (w_iconst_m1 C (jd jdt_Sp_early 12 rfl)) ?_
    exact J_some (fun hx => hR (-1) M hx _ _ (jd jdt_Sp_early 13 rfl) rfl)
  · refine J_mono (w_iload_n C (jd jdt_Sp_early 3 rfl) rfl) ?_
    refine J_mono (w_iconst_1 C (jd jdt_Sp_early 4 rfl)) ?_
    refine J_br (w_icmp_lt C (jd jdt_Sp_early 5 rfl) rfl) (fun h2 => J_pos h2 ?_) (fun h2 => J_neg h2 ?_)
    · refine J_mono (w_iconst_m1 C (jd jdt_Sp_early 12 rfl)) ?_
      exact J_some (fun hx => hR (-1) M hx _ _ (jd jdt_Sp_early 13 rfl) rfl)
    · refine J_mono (w_iload_n C (jd jdt_Sp_early 6 rfl) rfl) ?_
      refine J_mono (w_bipush_60 C (jd jdt_Sp_early 7 rfl)) ?_
      refine J_br (w_icmp_gt C (jd jdt_Sp_early 8 rfl) rfl) (fun h3 => J_pos h3 ?_) (fun h3 => J_neg h3 ?_)
      · refine J_mono (w_iconst_m1 C (jd jdt_Sp_early 12 rfl)) ?_
        exact J_some (fun hx => hR (-1) M hx _ _ (jd jdt_Sp_early 13 rfl) rfl)
      · refine J_mono (w_iload_n C (jd jdt_Sp_early 9 rfl) rfl) ?_
        refine J_mono (w_iconst_m1 C (jd jdt_Sp_early 10 rfl)) ?_
        refine J_br (w_icmp_ge C (jd jdt_Sp_early 11 rfl) rfl) (fun h4 => J_pos h4 ?_) (fun h4 => J_neg h4 ?_)
        · refine J_mono (w_iconst_m1 C (jd jdt_Sp_early 12 rfl)) ?_
          exact J_some (fun hx => hR (-1) M hx _ _ (jd jdt_Sp_early 13 rfl) rfl)
        · refine J_mono (w_iconst_0 C (jd jdt_Sp_early 14 rfl)) ?_
          refine J_mono (w_istore_n (ls' := [some (.ref a0), some (.int a1), some (.int a2), some (.int 0), none, none, none]) C (jd jdt_Sp_early 15 rfl) (by decide) rfl rfl) ?_
          refine J_mono (w_iconst_0 C (jd jdt_Sp_early 16 rfl)) ?_
          refine J_mono (w_istore (ls' := [some (.ref a0), some (.int a1), some (.int a2), some (.int 0), some (.int 0), none, none]) C (jd jdt_Sp_early 17 rfl) (by decide) rfl rfl) ?_
          have L30 : ∀ (y0 : Nat) (y1 : Int32) (y2 : Int32) (hy0 : jkd y0 11) (n : Nat) (x3 : Int32) (x4 : Int32) (M : SM), J (Sum.elim (fun (q12 : Int32 × SM) => Wk p l e R s m args below meth c G 7 Q 0 0 jN0 (jce G q12.2) 111 [none, none, some (.int y2), some (.int q12.1), none, none, none] []) X) (lp_Sp_early_30 y0 y1 y2 n x3 x4 M) (Wk p l e R s m args below meth c G 7 Q 0 0 jN0 (jce G M) 30 [some (.ref y0), some (.int y1), some (.int y2), some (.int x3), some (.int x4), none, none] []) := by
            intro y0 y1 y2 hy0 n
            induction n with
            | zero => intro x3 x4 M; exact J_none
            | succ n ih =>
              intro x3 x4 M
              unfold lp_Sp_early_30
              refine J_mono (w_iload C (jd jdt_Sp_early 18 rfl) rfl) ?_
              refine J_mono (w_aload_n C (jd jdt_Sp_early 19 rfl) rfl) ?_
              refine J_mono (jg_Sp_37 C hy0 (jd jdt_Sp_early 20 rfl)) ?_
              refine J_mono (jg_Sp_135 C (jop_kd _) (jd jdt_Sp_early 21 rfl)) ?_
              refine J_br (w_icmp_ge C (jd jdt_Sp_early 22 rfl) rfl) (fun h5 => J_pos h5 ?_) (fun h5 => J_neg h5 ?_)
              · refine J_mono (w_iload_n C (jd jdt_Sp_early 23 rfl) rfl) ?_
                refine J_mono (w_aload_n C (jd jdt_Sp_early 24 rfl) rfl) ?_
                refine J_mono (jg_Sp_37 C hy0 (jd jdt_Sp_early 25 rfl)) ?_
                refine J_mono (jg_Sp_163 C (jop_kd _) (jd jdt_Sp_early 26 rfl)) ?_
                refine J_mono (w_iload C (jd jdt_Sp_early 27 rfl) rfl) ?_
                refine J_bind (fun q6 hq6 => ?_)
                refine J_mono (jc_Sp_193 C (jkf_1_13 (jop_kd _)) (C_Pa_size l G F (jpf (jop (M.1 y0 8)) 13) x4 (jkf_1_13 (jop_kd _)) M hq6) rfl (Nat.le_trans (Nat.le_of_ble_eq_true rfl : 2 + 1 ≤ 10) hD) (jd jdt_Sp_early 28 rfl)) ?_
                refine J_mono (w_mmin C (Nat.zero_le _) (Nat.zero_le _) (Nat.le_of_ble_eq_true rfl) jw_972 (jd jdt_Sp_early 29 rfl)) ?_
                refine J_mono (w_istore (ls' := [some (.ref y0), some (.int y1), some (.int y2), some (.int x3), some (.int x4), some (.int (jmin y1 q6)), none]) C (jd jdt_Sp_early 30 rfl) (by decide) rfl rfl) ?_
                refine J_mono (w_iconst_1 C (jd jdt_Sp_early 31 rfl)) ?_
                refine J_mono (w_istore (ls' := [some (.ref y0), some (.int y1), some (.int y2), some (.int x3), some (.int x4), some (.int (jmin y1 q6)), some (.int 1)]) C (jd jdt_Sp_early 32 rfl) (by decide) rfl rfl) ?_
                have L63 : ∀ (y0 : Nat) (y1 : Int32) (y2 : Int32) (y4 : Int32) (y5 : Int32) (hy0 : jkd y0 11) (n : Nat) (x3 : Int32) (x6 : Int32) (M : SM), J (Sum.elim (fun (q11 : Int32 × SM) => Wk p l e R s m args below meth c G 7 Q 0 0 jN0 (jce G q11.2) 105 [some (.ref y0), some (.int y1), some (.int y2), some (.int q11.1), some (.int y4), none, none] []) X) (lp_Sp_early_63 y0 y1 y2 y4 y5 n x3 x6 M) (Wk p l e R s m args below meth c G 7 Q 0 0 jN0 (jce G M) 63 [some (.ref y0), some (.int y1), some (.int y2), some (.int x3), some (.int y4), some (.int y5), some (.int x6)] []) := by
                  intro y0 y1 y2 y4 y5 hy0 n
                  induction n with
                  | zero => intro x3 x6 M; exact J_none
                  | succ n ih =>
                    intro x3 x6 M
                    unfold lp_Sp_early_63
                    refine J_mono (w_iload C (jd jdt_Sp_early 33 rfl) rfl) ?_
                    refine J_mono (w_iload C (jd jdt_Sp_early 34 rfl) rfl) ?_
                    refine J_br (w_icmp_gt C (jd jdt_Sp_early 35 rfl) rfl) (fun h7 => J_pos h7 ?_) (fun h7 => J_neg h7 ?_)
                    · exact J_some (fun hx => Wk_sb hx ⟨rfl, rfl, rfl, rfl, rfl, trivial⟩)
                    · refine J_mono (w_aload_n C (jd jdt_Sp_early 36 rfl) rfl) ?_
                      refine J_mono (w_iload C (jd jdt_Sp_early 37 rfl) rfl) ?_
                      refine J_mono (w_iload C (jd jdt_Sp_early 38 rfl) rfl) ?_
                      refine J_mono (w_iload_n C (jd jdt_Sp_early 39 rfl) rfl) ?_
                      refine J_bind (fun q8 hq8 => ?_)
                      refine J_mono (jc_Sp_279 C hy0 (C_Sp_isWetWithout l G F y0 y4 x6 y1 hy0 M hq8) rfl (Nat.le_trans (Nat.le_of_ble_eq_true rfl : 9 + 1 ≤ 10) hD) (jd jdt_Sp_early 40 rfl)) ?_
                      refine J_br (w_if_eq (y := 0) C (jd jdt_Sp_early 41 rfl) rfl) (fun h9 => J_pos h9 ?_) (fun h9 => J_neg h9 ?_)
                      · refine J_mono (w_iinc (v := x6 + 1) (ls' := [some (.ref y0), some (.int y1), some (.int y2), some (.int x3), some (.int y4), some (.int y5), some (.int (x6 + 1))]) C (jd jdt_Sp_early 52 rfl) rfl rfl (by decide) rfl rfl) ?_
                        refine J_mono (w_goto C (jd jdt_Sp_early 53 rfl) rfl) ?_
                        exact J_sub (ih x3 (x6 + 1) q8.2) ⟨rfl, rfl, rfl, rfl, rfl, rfl, rfl, trivial⟩
                      · refine J_mono (w_iload_n C (jd jdt_Sp_early 42 rfl) rfl) ?_
                        refine J_mono (w_iload_n C (jd jdt_Sp_early 43 rfl) rfl) ?_
                        refine J_br (w_icmp_ne C (jd jdt_Sp_early 44 rfl) rfl) (fun h10 => J_pos h10 ?_) (fun h10 => J_neg h10 ?_)
                        · refine J_mono (w_bipush_100 C (jd jdt_Sp_early 45 rfl)) ?_
                          refine J_mono (w_iload C (jd jdt_Sp_early 46 rfl) rfl) ?_
                          refine J_mono (w_imul C (jd jdt_Sp_early 47 rfl)) ?_
                          refine J_mono (w_iload C (jd jdt_Sp_early 48 rfl) rfl) ?_
                          refine J_mono (w_iadd C (jd jdt_Sp_early 49 rfl)) ?_
                          exact J_some (fun hx => hR ((100 * y4) + x6) q8.2 hx _ _ (jd jdt_Sp_early 50 rfl) rfl)
                        · refine J_mono (w_iinc (v := x3 + 1) (ls' := [some (.ref y0), some (.int y1), some (.int y2), some (.int (x3 + 1)), some (.int y4), some (.int y5), some (.int x6)]) C (jd jdt_Sp_early 51 rfl) rfl rfl (by decide) rfl rfl) ?_
                          refine J_mono (w_iinc (v := x6 + 1) (ls' := [some (.ref y0), some (.int y1), some (.int y2), some (.int (x3 + 1)), some (.int y4), some (.int y5), some (.int (x6 + 1))]) C (jd jdt_Sp_early 52 rfl) rfl rfl (by decide) rfl rfl) ?_
                          refine J_mono (w_goto C (jd jdt_Sp_early 53 rfl) rfl) ?_
                          exact J_sub (ih (x3 + 1) (x6 + 1) q8.2) ⟨rfl, rfl, rfl, rfl, rfl, rfl, rfl, trivial⟩
                refine J_sb (fun (q11 : Int32 × SM) => Wk p l e R s m args below meth c G 7 Q 0 0 jN0 (jce G q11.2) 105 [some (.ref y0), some (.int y1), some (.int y2), some (.int q11.1), some (.int x4), none, none] []) (J_sub (L63 y0 y1 y2 x4 (jmin y1 q6) hy0 jfuel x3 1 M) ⟨rfl, rfl, rfl, rfl, rfl, rfl, rfl, trivial⟩) (fun q11 => ?_)
                refine J_mono (w_iinc (v := x4 + 1) (ls' := [some (.ref y0), some (.int y1), some (.int y2), some (.int q11.1), some (.int (x4 + 1)), none, none]) C (jd jdt_Sp_early 54 rfl) rfl rfl (by decide) rfl rfl) ?_
                refine J_mono (w_goto C (jd jdt_Sp_early 55 rfl) rfl) ?_
                exact J_sub (ih q11.1 (x4 + 1) q11.2) ⟨rfl, rfl, rfl, rfl, rfl, trivial⟩
              · exact J_some (fun hx => Wk_sb hx ⟨rfl, rfl, trivial⟩)
          refine J_sb (fun (q12 : Int32 × SM) => Wk p l e R s m args below meth c G 7 Q 0 0 jN0 (jce G q12.2) 111 [none, none, some (.int a2), some (.int q12.1), none, none, none] []) (J_sub (L30 a0 a1 a2 hp0 jfuel 0 0 M) ⟨rfl, rfl, rfl, rfl, rfl, trivial⟩) (fun q12 => ?_)
          refine J_mono (w_iload_n C (jd jdt_Sp_early 56 rfl) rfl) ?_
          refine J_mono (w_iconst_m1 C (jd jdt_Sp_early 57 rfl)) ?_
          refine J_br (w_icmp_ne C (jd jdt_Sp_early 58 rfl) rfl) (fun h13 => J_pos h13 ?_) (fun h13 => J_neg h13 ?_)
          · refine J_mono (w_iload_n C (jd jdt_Sp_early 59 rfl) rfl) ?_
            refine J_mono (w_goto C (jd jdt_Sp_early 60 rfl) rfl) ?_
            exact J_some (fun hx => hR q12.1 q12.2 hx _ _ (jd jdt_Sp_early 62 rfl) rfl)
          · refine J_mono (w_iconst_m1 C (jd jdt_Sp_early 61 rfl)) ?_
            exact J_some (fun hx => hR (-1) q12.2 hx _ _ (jd jdt_Sp_early 62 rfl) rfl)
end
theorem C_Sp_early (l : Launch) (G : JG) (F : jF G = false) (a0 : Nat) (a1 : Int32) (a2 : Int32) (hp0 : jkd a0 11) (M : SM) {q : (Int32 × SM)} (hf : f_Sp_early a0 a1 a2 M = some q) : jMet l jy_Sp_early jb_Sp_early 7 (some FieldType.int) 10 0 0 G [.ref a0, .int a1, .int a2] jN0 (jce G M) (some (.int q.1)) jN0 (jce G q.2) :=
  j_met jo_Sp_early (by decide) (Nat.le_of_ble_eq_true rfl) (fun p e s m args below meth c C hr hm => K_Sp_early C F (Nat.le_refl _) a0 a1 a2 hp0 M (fun t => t = q) (fun v M' hX pc ls hd hn => by cases hX; exact w_iret C hr hn hd) _ hf rfl)
def lp_Sp_encore_76 (y0 : Nat) (y1 : Int32) (y2 : Int32) : Nat → Int32 → SM → Option (SM)
  | 0, _, _ => none
  | n + 1, x4, M => if (y1 + y2) < x4 then (some M) else ((f_Po_play (jpf y0 7) (jop (M.1 y0 8)) x4 M).bind fun q9 => lp_Sp_encore_76 y0 y1 y2 n (x4 + 1) q9)
def f_Sp_encore (a0 : Nat) (a1 : Int32) (a2 : Int32) (M : SM) : Option (Int32 × SM) := if (M.1 (jop (M.1 a0 8)) 1) = 0 then (some ((-1), M)) else (if a1 < 0 then (some ((-1), M)) else (if 60 < a1 then (some ((-1), M)) else (if a2 < 1 then (some ((-1), M)) else (if 30 < a2 then (some ((-1), M)) else (if 60 < (a1 + a2) then (some ((-1), M)) else ((f_Po_begin (jpf a0 7) (jpf a0 6) a1 M).bind fun q7 => (lp_Sp_encore_76 a0 a1 a2 jfuel (a1 + 1) (sI q7 (jpf a0 7) 10 a1)).bind fun q10 => some ((q10.1 (jpf a0 7) 5) - ((sI q7 (jpf a0 7) 10 a1).1 (jpf a0 7) 5), q10)))))))
section
variable {p : Program} {l : Launch} {e : Env} {R : Room} {s : State} {m : MethodId} {args : Array Value} {below : List Frame} {meth : Method} {c : Code} {G : JG} {D : Nat} {Q : State → Prop}
set_option maxHeartbeats 4000000 in
set_option maxRecDepth 20000 in
theorem K_Sp_encore (C : jCx p R s m args meth c G jb_Sp_encore 5 D "SluicePit") (F : jF G = false) (hD : 9 ≤ D) (a0 : Nat) (a1 : Int32) (a2 : Int32) (hp0 : jkd a0 11) (M : SM) (X : (Int32 × SM) → Prop) (hR : ∀ v M', X (v, M') → ∀ (pc : Nat) (ls : List (Option Value)), decode jb_Sp_encore pc = .ok (.ireturn, 1) → narrow FieldType.int (.int v) = .int v → Wk p l e R s m args below meth c G 5 Q 0 0 jN0 (jce G M') pc ls [.int v]) : J X (f_Sp_encore a0 a1 a2 M) (Wk p l e R s m args below meth c G 5 Q 0 0 jN0 (jce G M) 0 [some (.ref a0), some (.int a1), some (.int a2), none, none] []) := by
  unfold f_Sp_encore
  refine J_mono (w_aload_n C (jd jdt_Sp_encore 0 rfl) rfl) ?_
  refine J_mono (jg_Sp_37 C hp0 (jd jdt_Sp_encore 1 rfl)) ?_
  refine J_mono (jg_Sp_132 C (jop_kd _) (jd jdt_Sp_encore 2 rfl)) ?_
  refine J_br (w_if_eq (y := 0) C (jd jdt_Sp_encore 3 rfl) rfl) (fun h1 => J_pos h1 ?_) (fun h1 => J_neg h1 ?_)
  · refine J_mono (w_iconst_m1 C (jd jdt_Sp_encore 15 rfl)) ?_
    exact J_some (fun hx => hR (-1) M hx _ _ (jd jdt_Sp_encore 16 rfl) rfl)
  · refine J_mono (w_iload_n C (jd jdt_Sp_encore 4 rfl) rfl) ?_
    refine J_br (w_if_lt (y := 0) C (jd jdt_Sp_encore 5 rfl) rfl) (fun h2 => J_pos h2 ?_) (fun h2 => J_neg h2 ?_)
    · refine J_mono (w_iconst_m1 C (jd jdt_Sp_encore 15 rfl)) ?_
      exact J_some (fun hx => hR (-1) M hx _ _ (jd jdt_Sp_encore 16 rfl) rfl)
    · refine J_mono (w_iload_n C (jd jdt_Sp_encore 6 rfl) rfl) ?_
      refine J_mono (w_bipush_60 C (jd jdt_Sp_encore 7 rfl)) ?_
      refine J_br (w_icmp_gt C (jd jdt_Sp_encore 8 rfl) rfl) (fun h3 => J_pos h3 ?_) (fun h3 => J_neg h3 ?_)
      · refine J_mono (w_iconst_m1 C (jd jdt_Sp_encore 15 rfl)) ?_
        exact J_some (fun hx => hR (-1) M hx _ _ (jd jdt_Sp_encore 16 rfl) rfl)
      · refine J_mono (w_iload_n C (jd jdt_Sp_encore 9 rfl) rfl) ?_
        refine J_mono (w_iconst_1 C (jd jdt_Sp_encore 10 rfl)) ?_
        refine J_br (w_icmp_lt C (jd jdt_Sp_encore 11 rfl) rfl) (fun h4 => J_pos h4 ?_) (fun h4 => J_neg h4 ?_)
        · refine J_mono (w_iconst_m1 C (jd jdt_Sp_encore 15 rfl)) ?_
          exact J_some (fun hx => hR (-1) M hx _ _ (jd jdt_Sp_encore 16 rfl) rfl)
        · refine J_mono (w_iload_n C (jd jdt_Sp_encore 12 rfl) rfl) ?_
          refine J_mono (w_bipush_30 C (jd jdt_Sp_encore 13 rfl)) ?_
          refine J_br (w_icmp_le C (jd jdt_Sp_encore 14 rfl) rfl) (fun h5 => J_pos h5 ?_) (fun h5 => J_neg h5 ?_)
          · refine J_mono (w_iconst_m1 C (jd jdt_Sp_encore 15 rfl)) ?_
            exact J_some (fun hx => hR (-1) M hx _ _ (jd jdt_Sp_encore 16 rfl) rfl)
          · refine J_mono (w_iload_n C (jd jdt_Sp_encore 17 rfl) rfl) ?_
            refine J_mono (w_iload_n C (jd jdt_Sp_encore 18 rfl) rfl) ?_
            refine J_mono (w_iadd C (jd jdt_Sp_encore 19 rfl)) ?_
            refine J_mono (w_bipush_60 C (jd jdt_Sp_encore 20 rfl)) ?_
            refine J_br (w_icmp_le C (jd jdt_Sp_encore 21 rfl) rfl) (fun h6 => J_pos h6 ?_) (fun h6 => J_neg h6 ?_)
            · refine J_mono (w_iconst_m1 C (jd jdt_Sp_encore 22 rfl)) ?_
              exact J_some (fun hx => hR (-1) M hx _ _ (jd jdt_Sp_encore 23 rfl) rfl)
            · refine J_mono (w_aload_n C (jd jdt_Sp_encore 24 rfl) rfl) ?_
              refine J_mono (jg_Sp_70 C hp0 (jd jdt_Sp_encore 25 rfl)) ?_
              refine J_mono (w_aload_n C (jd jdt_Sp_encore 26 rfl) rfl) ?_
              refine J_mono (jg_Sp_63 C hp0 (jd jdt_Sp_encore 27 rfl)) ?_
              refine J_mono (w_iload_n C (jd jdt_Sp_encore 28 rfl) rfl) ?_
              refine J_bind (fun q7 hq7 => ?_)
              refine J_mono (jc_Sp_283 C (jkf_11_7 hp0) (C_Po_begin l G F (jpf a0 7) (jpf a0 6) a1 (jkf_11_7 hp0) (jkf_11_6 hp0) M hq7) rfl (Nat.le_trans (Nat.le_of_ble_eq_true rfl : 3 + 1 ≤ 9) hD) (jd jdt_Sp_encore 29 rfl)) ?_
              refine J_mono (w_aload_n C (jd jdt_Sp_encore 30 rfl) rfl) ?_
              refine J_mono (jg_Sp_70 C hp0 (jd jdt_Sp_encore 31 rfl)) ?_
              refine J_mono (w_iload_n C (jd jdt_Sp_encore 32 rfl) rfl) ?_
              refine J_mono (jp_Sp_286 C F (jkf_11_7 hp0) (jd jdt_Sp_encore 33 rfl)) ?_
              refine J_mono (w_aload_n C (jd jdt_Sp_encore 34 rfl) rfl) ?_
              refine J_mono (jg_Sp_70 C hp0 (jd jdt_Sp_encore 35 rfl)) ?_
              refine J_mono (jg_Sp_289 C (jkf_11_7 hp0) (jd jdt_Sp_encore 36 rfl)) ?_
              refine J_mono (w_istore_n (ls' := [some (.ref a0), some (.int a1), some (.int a2), some (.int ((sI q7 (jpf a0 7) 10 a1).1 (jpf a0 7) 5)), none]) C (jd jdt_Sp_encore 37 rfl) (by decide) rfl rfl) ?_
              refine J_mono (w_iload_n C (jd jdt_Sp_encore 38 rfl) rfl) ?_
              refine J_mono (w_iconst_1 C (jd jdt_Sp_encore 39 rfl)) ?_
              refine J_mono (w_iadd C (jd jdt_Sp_encore 40 rfl)) ?_
              refine J_mono (w_istore (ls' := [some (.ref a0), some (.int a1), some (.int a2), some (.int ((sI q7 (jpf a0 7) 10 a1).1 (jpf a0 7) 5)), some (.int (a1 + 1))]) C (jd jdt_Sp_encore 41 rfl) (by decide) rfl rfl) ?_
              have L76 : ∀ (y0 : Nat) (y1 : Int32) (y2 : Int32) (y3 : Int32) (hy0 : jkd y0 11) (n : Nat) (x4 : Int32) (M : SM), J (fun (q10 : SM) => Wk p l e R s m args below meth c G 5 Q 0 0 jN0 (jce G q10) 103 [some (.ref y0), none, none, some (.int y3), none] []) (lp_Sp_encore_76 y0 y1 y2 n x4 M) (Wk p l e R s m args below meth c G 5 Q 0 0 jN0 (jce G M) 76 [some (.ref y0), some (.int y1), some (.int y2), some (.int y3), some (.int x4)] []) := by
                intro y0 y1 y2 y3 hy0 n
                induction n with
                | zero => intro x4 M; exact J_none
                | succ n ih =>
                  intro x4 M
                  unfold lp_Sp_encore_76
                  refine J_mono (w_iload C (jd jdt_Sp_encore 42 rfl) rfl) ?_
                  refine J_mono (w_iload_n C (jd jdt_Sp_encore 43 rfl) rfl) ?_
                  refine J_mono (w_iload_n C (jd jdt_Sp_encore 44 rfl) rfl) ?_
                  refine J_mono (w_iadd C (jd jdt_Sp_encore 45 rfl)) ?_
                  refine J_br (w_icmp_gt C (jd jdt_Sp_encore 46 rfl) rfl) (fun h8 => J_pos h8 ?_) (fun h8 => J_neg h8 ?_)
                  · exact J_some (fun hx => Wk_sb hx ⟨rfl, rfl, trivial⟩)
                  · refine J_mono (w_aload_n C (jd jdt_Sp_encore 47 rfl) rfl) ?_
                    refine J_mono (jg_Sp_70 C hy0 (jd jdt_Sp_encore 48 rfl)) ?_
                    refine J_mono (w_aload_n C (jd jdt_Sp_encore 49 rfl) rfl) ?_
                    refine J_mono (jg_Sp_37 C hy0 (jd jdt_Sp_encore 50 rfl)) ?_
                    refine J_mono (w_iload C (jd jdt_Sp_encore 51 rfl) rfl) ?_
                    refine J_bind (fun q9 hq9 => ?_)
                    refine J_mono (jc_Sp_292 C (jkf_11_7 hy0) (C_Po_play l G F (jpf y0 7) (jop (M.1 y0 8)) x4 (jkf_11_7 hy0) (jop_kd _) M hq9) rfl (Nat.le_trans (Nat.le_of_ble_eq_true rfl : 8 + 1 ≤ 9) hD) (jd jdt_Sp_encore 52 rfl)) ?_
                    refine J_mono (w_iinc (v := x4 + 1) (ls' := [some (.ref y0), some (.int y1), some (.int y2), some (.int y3), some (.int (x4 + 1))]) C (jd jdt_Sp_encore 53 rfl) rfl rfl (by decide) rfl rfl) ?_
                    refine J_mono (w_goto C (jd jdt_Sp_encore 54 rfl) rfl) ?_
                    exact J_sub (ih (x4 + 1) q9) ⟨rfl, rfl, rfl, rfl, rfl, trivial⟩
              refine J_seq (fun (q10 : SM) => Wk p l e R s m args below meth c G 5 Q 0 0 jN0 (jce G q10) 103 [some (.ref a0), none, none, some (.int ((sI q7 (jpf a0 7) 10 a1).1 (jpf a0 7) 5)), none] []) (J_sub (L76 a0 a1 a2 ((sI q7 (jpf a0 7) 10 a1).1 (jpf a0 7) 5) hp0 jfuel (a1 + 1) (sI q7 (jpf a0 7) 10 a1)) ⟨rfl, rfl, rfl, rfl, rfl, trivial⟩) (fun q10 hq10 => ?_)
              refine J_mono (w_aload_n C (jd jdt_Sp_encore 55 rfl) rfl) ?_
              refine J_mono (jg_Sp_70 C hp0 (jd jdt_Sp_encore 56 rfl)) ?_
              refine J_mono (jg_Sp_289 C (jkf_11_7 hp0) (jd jdt_Sp_encore 57 rfl)) ?_
              refine J_mono (w_iload_n C (jd jdt_Sp_encore 58 rfl) rfl) ?_
              refine J_mono (w_isub C (jd jdt_Sp_encore 59 rfl)) ?_
              exact J_some (fun hx => hR ((q10.1 (jpf a0 7) 5) - ((sI q7 (jpf a0 7) 10 a1).1 (jpf a0 7) 5)) q10 hx _ _ (jd jdt_Sp_encore 60 rfl) rfl)
end
theorem C_Sp_encore (l : Launch) (G : JG) (F : jF G = false) (a0 : Nat) (a1 : Int32) (a2 : Int32) (hp0 : jkd a0 11) (M : SM) {q : (Int32 × SM)} (hf : f_Sp_encore a0 a1 a2 M = some q) : jMet l jy_Sp_encore jb_Sp_encore 5 (some FieldType.int) 9 0 0 G [.ref a0, .int a1, .int a2] jN0 (jce G M) (some (.int q.1)) jN0 (jce G q.2) :=
  j_met jo_Sp_encore (by decide) (Nat.le_of_ble_eq_true rfl) (fun p e s m args below meth c C hr hm => K_Sp_encore C F (Nat.le_refl _) a0 a1 a2 hp0 M (fun t => t = q) (fun v M' hX pc ls hd hn => by cases hX; exact w_iret C hr hn hd) _ hf rfl)
def f_Sp_draw (a0 : Nat) (a1 : Int32) (M : SM) : Option (Int32 × SM) := if 0 < a1 then (if a1.toInt64 = 0 then none else (some (Int64.toInt32 ((((sL M a0 12 (((1103515245 * (M.2 a0 12)) + 12345) &&& 2147483647)).2 a0 12) / 64) - (((sL M a0 12 (((1103515245 * (M.2 a0 12)) + 12345) &&& 2147483647)).2 a0 12) / 64) / a1.toInt64 * a1.toInt64), sL M a0 12 (((1103515245 * (M.2 a0 12)) + 12345) &&& 2147483647)))) else (some (0, sL M a0 12 (((1103515245 * (M.2 a0 12)) + 12345) &&& 2147483647)))
section
variable {p : Program} {l : Launch} {e : Env} {R : Room} {s : State} {m : MethodId} {args : Array Value} {below : List Frame} {meth : Method} {c : Code} {G : JG} {D : Nat} {Q : State → Prop}
set_option maxHeartbeats 4000000 in
set_option maxRecDepth 20000 in
theorem K_Sp_draw (C : jCx p R s m args meth c G jb_Sp_draw 2 D "SluicePit") (F : jF G = false) (hD : 1 ≤ D) (a0 : Nat) (a1 : Int32) (hp0 : jkd a0 11) (M : SM) (X : (Int32 × SM) → Prop) (hR : ∀ v M', X (v, M') → ∀ (pc : Nat) (ls : List (Option Value)), decode jb_Sp_draw pc = .ok (.ireturn, 1) → narrow FieldType.int (.int v) = .int v → Wk p l e R s m args below meth c G 2 Q 0 0 jN0 (jce G M') pc ls [.int v]) : J X (f_Sp_draw a0 a1 M) (Wk p l e R s m args below meth c G 2 Q 0 0 jN0 (jce G M) 0 [some (.ref a0), some (.int a1)] []) := by
  unfold f_Sp_draw
  refine J_mono (w_aload_n C (jd jdt_Sp_draw 0 rfl) rfl) ?_
  refine J_mono (w_ldc2 C (jd jdt_Sp_draw 1 rfl) jw_993) ?_
  refine J_mono (w_aload_n C (jd jdt_Sp_draw 2 rfl) rfl) ?_
  refine J_mono (jg_Sp_91 C hp0 (jd jdt_Sp_draw 3 rfl)) ?_
  refine J_mono (w_lmul C (jd jdt_Sp_draw 4 rfl)) ?_
  refine J_mono (w_ldc2 C (jd jdt_Sp_draw 5 rfl) jw_994) ?_
  refine J_mono (w_ladd C (jd jdt_Sp_draw 6 rfl)) ?_
  refine J_mono (w_ldc2 C (jd jdt_Sp_draw 7 rfl) jw_995) ?_
  refine J_mono (w_land C (jd jdt_Sp_draw 8 rfl)) ?_
  refine J_mono (jp_Sp_91 C F hp0 (jd jdt_Sp_draw 9 rfl)) ?_
  refine J_mono (w_iload_n C (jd jdt_Sp_draw 10 rfl) rfl) ?_
  refine J_br (w_if_le (y := 0) C (jd jdt_Sp_draw 11 rfl) rfl) (fun h1 => J_pos h1 ?_) (fun h1 => J_neg h1 ?_)
  · refine J_mono (w_aload_n C (jd jdt_Sp_draw 12 rfl) rfl) ?_
    refine J_mono (jg_Sp_91 C hp0 (jd jdt_Sp_draw 13 rfl)) ?_
    refine J_mono (w_ldc2 C (jd jdt_Sp_draw 14 rfl) jw_996) ?_
    refine J_mono (w_ldiv C (jd jdt_Sp_draw 15 rfl) (by decide)) ?_
    refine J_mono (w_iload_n C (jd jdt_Sp_draw 16 rfl) rfl) ?_
    refine J_mono (w_i2l C (jd jdt_Sp_draw 17 rfl)) ?_
    refine J_div (fun h2 => ?_)
    refine J_mono (w_lrem C (jd jdt_Sp_draw 18 rfl) h2) ?_
    refine J_mono (w_l2i C (jd jdt_Sp_draw 19 rfl)) ?_
    refine J_mono (w_goto C (jd jdt_Sp_draw 20 rfl) rfl) ?_
    exact J_some (fun hx => hR (Int64.toInt32 ((((sL M a0 12 (((1103515245 * (M.2 a0 12)) + 12345) &&& 2147483647)).2 a0 12) / 64) - (((sL M a0 12 (((1103515245 * (M.2 a0 12)) + 12345) &&& 2147483647)).2 a0 12) / 64) / a1.toInt64 * a1.toInt64)) (sL M a0 12 (((1103515245 * (M.2 a0 12)) + 12345) &&& 2147483647)) hx _ _ (jd jdt_Sp_draw 22 rfl) rfl)
  · refine J_mono (w_iconst_0 C (jd jdt_Sp_draw 21 rfl)) ?_
    exact J_some (fun hx => hR 0 (sL M a0 12 (((1103515245 * (M.2 a0 12)) + 12345) &&& 2147483647)) hx _ _ (jd jdt_Sp_draw 22 rfl) rfl)
end
theorem C_Sp_draw (l : Launch) (G : JG) (F : jF G = false) (a0 : Nat) (a1 : Int32) (hp0 : jkd a0 11) (M : SM) {q : (Int32 × SM)} (hf : f_Sp_draw a0 a1 M = some q) : jMet l jy_Sp_draw jb_Sp_draw 2 (some FieldType.int) 1 0 0 G [.ref a0, .int a1] jN0 (jce G M) (some (.int q.1)) jN0 (jce G q.2) :=
  j_met jo_Sp_draw (by decide) (Nat.le_of_ble_eq_true rfl) (fun p e s m args below meth c C hr hm => K_Sp_draw C F (Nat.le_refl _) a0 a1 hp0 M (fun t => t = q) (fun v M' hX pc ls hd hn => by cases hX; exact w_iret C hr hn hd) _ hf rfl)
def lp_Sp_swims_5 (y0 : Nat) (y2 : Int32) : Nat → Int32 → Int32 → SM → Option ((SM) ⊕ (Int32 × SM))
  | 0, _, _, _ => none
  | n + 1, x3, x4, M => if y2 < x4 then (some (.inl M)) else ((f_Ru_water (jpf y0 6) x4 x3 M).bind fun q2 => if 0 < q2 then ((f_Sp_draw y0 3 M).bind fun q4 => (if q4.1 = 1 then (some (x3 - 1)) else (if q4.1 = 2 then (some (x3 + 1)) else (some x3)) : Option (Int32)).bind fun q5 => (f_Sp_isCell y0 q5 q4.2).bind fun q8 => (if q8 = 0 then (some x3) else ((f_Ru_water (jpf y0 6) x4 q5 q4.2).bind fun q11 => if 0 < q11 then (some q5) else (some x3)) : Option (Int32)).bind fun q9 => lp_Sp_swims_5 y0 y2 n q9 (x4 + 1) q4.2) else (some (.inr (0, M))))
def f_Sp_swims (a0 : Nat) (a1 : Int32) (a2 : Int32) (M : SM) : Option (Int32 × SM) := jsb (lp_Sp_swims_5 a0 a2 jfuel a1 1 M) id fun q13 => some (1, q13)
section
variable {p : Program} {l : Launch} {e : Env} {R : Room} {s : State} {m : MethodId} {args : Array Value} {below : List Frame} {meth : Method} {c : Code} {G : JG} {D : Nat} {Q : State → Prop}
set_option maxHeartbeats 4000000 in
set_option maxRecDepth 20000 in
theorem K_Sp_swims (C : jCx p R s m args meth c G jb_Sp_swims 7 D "SluicePit") (F : jF G = false) (hD : 3 ≤ D) (a0 : Nat) (a1 : Int32) (a2 : Int32) (hp0 : jkd a0 11) (M : SM) (X : (Int32 × SM) → Prop) (hR : ∀ v M', X (v, M') → ∀ (pc : Nat) (ls : List (Option Value)), decode jb_Sp_swims pc = .ok (.ireturn, 1) → narrow FieldType.boolean (.int v) = .int v → Wk p l e R s m args below meth c G 7 Q 0 0 jN0 (jce G M') pc ls [.int v]) : J X (f_Sp_swims a0 a1 a2 M) (Wk p l e R s m args below meth c G 7 Q 0 0 jN0 (jce G M) 0 [some (.ref a0), some (.int a1), some (.int a2), none, none, none, none] []) := by
  unfold f_Sp_swims
  refine J_mono (w_iload_n C (jd jdt_Sp_swims 0 rfl) rfl) ?_
  refine J_mono (w_istore_n (ls' := [some (.ref a0), some (.int a1), some (.int a2), some (.int a1), none, none, none]) C (jd jdt_Sp_swims 1 rfl) (by decide) rfl rfl) ?_
  refine J_mono (w_iconst_1 C (jd jdt_Sp_swims 2 rfl)) ?_
  refine J_mono (w_istore (ls' := [some (.ref a0), some (.int a1), some (.int a2), some (.int a1), some (.int 1), none, none]) C (jd jdt_Sp_swims 3 rfl) (by decide) rfl rfl) ?_
  have L5 : ∀ (y0 : Nat) (y2 : Int32) (hy0 : jkd y0 11) (n : Nat) (x3 : Int32) (x4 : Int32) (M : SM), J (Sum.elim (fun (q13 : SM) => Wk p l e R s m args below meth c G 7 Q 0 0 jN0 (jce G q13) 92 [none, none, none, none, none, none, none] []) X) (lp_Sp_swims_5 y0 y2 n x3 x4 M) (Wk p l e R s m args below meth c G 7 Q 0 0 jN0 (jce G M) 5 [some (.ref y0), none, some (.int y2), some (.int x3), some (.int x4), none, none] []) := by
    intro y0 y2 hy0 n
    induction n with
    | zero => intro x3 x4 M; exact J_none
    | succ n ih =>
      intro x3 x4 M
      unfold lp_Sp_swims_5
      refine J_mono (w_iload C (jd jdt_Sp_swims 4 rfl) rfl) ?_
      refine J_mono (w_iload_n C (jd jdt_Sp_swims 5 rfl) rfl) ?_
      refine J_br (w_icmp_gt C (jd jdt_Sp_swims 6 rfl) rfl) (fun h1 => J_pos h1 ?_) (fun h1 => J_neg h1 ?_)
      · exact J_some (fun hx => Wk_sb hx trivial)
      · refine J_mono (w_aload_n C (jd jdt_Sp_swims 7 rfl) rfl) ?_
        refine J_mono (jg_Sp_63 C hy0 (jd jdt_Sp_swims 8 rfl)) ?_
        refine J_mono (w_iload C (jd jdt_Sp_swims 9 rfl) rfl) ?_
        refine J_mono (w_iload_n C (jd jdt_Sp_swims 10 rfl) rfl) ?_
        refine J_bind (fun q2 hq2 => ?_)
        refine J_mono (jc_Sp_211 C (jkf_11_6 hy0) (C_Ru_water l G F (jpf y0 6) x4 x3 (jkf_11_6 hy0) M hq2) rfl (Nat.le_trans (Nat.le_of_ble_eq_true rfl : 2 + 1 ≤ 3) hD) (jd jdt_Sp_swims 11 rfl)) ?_
        refine J_br (w_if_gt (y := 0) C (jd jdt_Sp_swims 12 rfl) rfl) (fun h3 => J_pos h3 ?_) (fun h3 => J_neg h3 ?_)
        · refine J_mono (w_aload_n C (jd jdt_Sp_swims 15 rfl) rfl) ?_
          refine J_mono (w_iconst_3 C (jd jdt_Sp_swims 16 rfl)) ?_
          refine J_bind (fun q4 hq4 => ?_)
          refine J_mono (jc_Sp_343 C hy0 (C_Sp_draw l G F y0 3 hy0 M hq4) rfl (Nat.le_trans (Nat.le_of_ble_eq_true rfl : 1 + 1 ≤ 3) hD) (jd jdt_Sp_swims 17 rfl)) ?_
          refine J_mono (w_istore (ls' := [some (.ref y0), none, some (.int y2), some (.int x3), some (.int x4), some (.int q4.1), none]) C (jd jdt_Sp_swims 18 rfl) (by decide) rfl rfl) ?_
          refine J_mono (w_iload C (jd jdt_Sp_swims 19 rfl) rfl) ?_
          refine J_mono (w_iconst_1 C (jd jdt_Sp_swims 20 rfl)) ?_
          refine J_seq (fun (q5 : Int32) => Wk p l e R s m args below meth c G 7 Q 0 0 jN0 (jce G q4.2) 58 [some (.ref y0), none, some (.int y2), some (.int x3), some (.int x4), none, none] [.int q5]) ?_ (fun q5 hq5 => ?_)
          · refine J_br (w_icmp_ne C (jd jdt_Sp_swims 21 rfl) rfl) (fun h6 => J_pos h6 ?_) (fun h6 => J_neg h6 ?_)
            · refine J_mono (w_iload_n C (jd jdt_Sp_swims 22 rfl) rfl) ?_
              refine J_mono (w_iconst_1 C (jd jdt_Sp_swims 23 rfl)) ?_
              refine J_mono (w_isub C (jd jdt_Sp_swims 24 rfl)) ?_
              refine J_mono (w_goto C (jd jdt_Sp_swims 25 rfl) rfl) ?_
              exact J_some (fun hx => Wk_sb hx ⟨rfl, rfl, rfl, rfl, trivial⟩)
            · refine J_mono (w_iload C (jd jdt_Sp_swims 26 rfl) rfl) ?_
              refine J_mono (w_iconst_2 C (jd jdt_Sp_swims 27 rfl)) ?_
              refine J_br (w_icmp_ne C (jd jdt_Sp_swims 28 rfl) rfl) (fun h7 => J_pos h7 ?_) (fun h7 => J_neg h7 ?_)
              · refine J_mono (w_iload_n C (jd jdt_Sp_swims 29 rfl) rfl) ?_
                refine J_mono (w_iconst_1 C (jd jdt_Sp_swims 30 rfl)) ?_
                refine J_mono (w_iadd C (jd jdt_Sp_swims 31 rfl)) ?_
                refine J_mono (w_goto C (jd jdt_Sp_swims 32 rfl) rfl) ?_
                exact J_some (fun hx => Wk_sb hx ⟨rfl, rfl, rfl, rfl, trivial⟩)
              · refine J_mono (w_iload_n C (jd jdt_Sp_swims 33 rfl) rfl) ?_
                exact J_some (fun hx => Wk_sb hx ⟨rfl, rfl, rfl, rfl, trivial⟩)
          · refine J_mono (w_istore (ls' := [some (.ref y0), none, some (.int y2), some (.int x3), some (.int x4), none, some (.int q5)]) C (jd jdt_Sp_swims 34 rfl) (by decide) rfl rfl) ?_
            refine J_mono (w_aload_n C (jd jdt_Sp_swims 35 rfl) rfl) ?_
            refine J_mono (w_iload C (jd jdt_Sp_swims 36 rfl) rfl) ?_
            refine J_bind (fun q8 hq8 => ?_)
            refine J_mono (jc_Sp_205 C hy0 (C_Sp_isCell l G F y0 q5 hy0 q4.2 hq8) rfl (Nat.le_trans (Nat.le_of_ble_eq_true rfl : 1 + 1 ≤ 3) hD) (jd jdt_Sp_swims 37 rfl)) ?_
            refine J_seq (fun (q9 : Int32) => Wk p l e R s m args below meth c G 7 Q 0 0 jN0 (jce G q4.2) 86 [some (.ref y0), none, some (.int y2), some (.int q9), some (.int x4), none, none] []) ?_ (fun q9 hq9 => ?_)
            · refine J_br (w_if_eq (y := 0) C (jd jdt_Sp_swims 38 rfl) rfl) (fun h10 => J_pos h10 ?_) (fun h10 => J_neg h10 ?_)
              · exact J_some (fun hx => Wk_sb hx ⟨rfl, rfl, rfl, rfl, trivial⟩)
              · refine J_mono (w_aload_n C (jd jdt_Sp_swims 39 rfl) rfl) ?_
                refine J_mono (jg_Sp_63 C hy0 (jd jdt_Sp_swims 40 rfl)) ?_
                refine J_mono (w_iload C (jd jdt_Sp_swims 41 rfl) rfl) ?_
                refine J_mono (w_iload C (jd jdt_Sp_swims 42 rfl) rfl) ?_
                refine J_bind (fun q11 hq11 => ?_)
                refine J_mono (jc_Sp_211 C (jkf_11_6 hy0) (C_Ru_water l G F (jpf y0 6) x4 q5 (jkf_11_6 hy0) q4.2 hq11) rfl (Nat.le_trans (Nat.le_of_ble_eq_true rfl : 2 + 1 ≤ 3) hD) (jd jdt_Sp_swims 43 rfl)) ?_
                refine J_br (w_if_le (y := 0) C (jd jdt_Sp_swims 44 rfl) rfl) (fun h12 => J_pos h12 ?_) (fun h12 => J_neg h12 ?_)
                · refine J_mono (w_iload C (jd jdt_Sp_swims 45 rfl) rfl) ?_
                  refine J_mono (w_istore_n (ls' := [some (.ref y0), none, some (.int y2), some (.int q5), some (.int x4), none, some (.int q5)]) C (jd jdt_Sp_swims 46 rfl) (by decide) rfl rfl) ?_
                  exact J_some (fun hx => Wk_sb hx ⟨rfl, rfl, rfl, rfl, trivial⟩)
                · exact J_some (fun hx => Wk_sb hx ⟨rfl, rfl, rfl, rfl, trivial⟩)
            · refine J_mono (w_iinc (v := x4 + 1) (ls' := [some (.ref y0), none, some (.int y2), some (.int q9), some (.int (x4 + 1)), none, none]) C (jd jdt_Sp_swims 47 rfl) rfl rfl (by decide) rfl rfl) ?_
              refine J_mono (w_goto C (jd jdt_Sp_swims 48 rfl) rfl) ?_
              exact J_sub (ih q9 (x4 + 1) q4.2) ⟨rfl, rfl, rfl, rfl, trivial⟩
        · refine J_mono (w_iconst_0 C (jd jdt_Sp_swims 13 rfl)) ?_
          exact J_some (fun hx => hR 0 M hx _ _ (jd jdt_Sp_swims 14 rfl) rfl)
  refine J_sb (fun (q13 : SM) => Wk p l e R s m args below meth c G 7 Q 0 0 jN0 (jce G q13) 92 [none, none, none, none, none, none, none] []) (J_sub (L5 a0 a2 hp0 jfuel a1 1 M) ⟨rfl, rfl, rfl, rfl, trivial⟩) (fun q13 => ?_)
  refine J_mono (w_iconst_1 C (jd jdt_Sp_swims 49 rfl)) ?_
  exact J_some (fun hx => hR 1 q13 hx _ _ (jd jdt_Sp_swims 50 rfl) rfl)
end
theorem C_Sp_swims (l : Launch) (G : JG) (F : jF G = false) (a0 : Nat) (a1 : Int32) (a2 : Int32) (hp0 : jkd a0 11) (M : SM) {q : (Int32 × SM)} (hf : f_Sp_swims a0 a1 a2 M = some q) : jMet l jy_Sp_swims jb_Sp_swims 7 (some FieldType.boolean) 3 0 0 G [.ref a0, .int a1, .int a2] jN0 (jce G M) (some (.int q.1)) jN0 (jce G q.2) :=
  j_met jo_Sp_swims (by decide) (Nat.le_of_ble_eq_true rfl) (fun p e s m args below meth c C hr hm => K_Sp_swims C F (Nat.le_refl _) a0 a1 a2 hp0 M (fun t => t = q) (fun v M' hX pc ls hd hn => by cases hX; exact w_iret C hr hn hd) _ hf rfl)
def lp_Sp_trout_34 (y0 : Nat) (y1 : Int32) (y2 : Int32) (y3 : Int32) : Nat → Int32 → Int32 → SM → Option (Int32 × SM)
  | 0, _, _, _ => none
  | n + 1, x4, x5, M => if x5 < y2 then ((f_Sp_swims y0 y1 y3 M).bind fun q8 => (if q8.1 = 0 then (some x4) else (some (x4 + 1)) : Option (Int32)).bind fun q9 => lp_Sp_trout_34 y0 y1 y2 y3 n q9 (x5 + 1) q8.2) else (some (x4, M))
def f_Sp_trout (a0 : Nat) (a1 : Int32) (a2 : Int32) (a3 : Int32) (M : SM) : Option (Int32 × SM) := (f_Sp_isCell a0 a1 M).bind fun q1 => if q1 = 0 then (some ((-1), M)) else (if a2 < 1 then (some ((-1), M)) else (if 50 < a2 then (some ((-1), M)) else ((f_Sp_isBar a3).bind fun q5 => if q5 = 0 then (some ((-1), M)) else ((lp_Sp_trout_34 a0 a1 a2 a3 jfuel 0 0 M).bind fun q11 => some (q11.1, q11.2)))))
section
variable {p : Program} {l : Launch} {e : Env} {R : Room} {s : State} {m : MethodId} {args : Array Value} {below : List Frame} {meth : Method} {c : Code} {G : JG} {D : Nat} {Q : State → Prop}
set_option maxHeartbeats 4000000 in
set_option maxRecDepth 20000 in
theorem K_Sp_trout (C : jCx p R s m args meth c G jb_Sp_trout 6 D "SluicePit") (F : jF G = false) (hD : 4 ≤ D) (a0 : Nat) (a1 : Int32) (a2 : Int32) (a3 : Int32) (hp0 : jkd a0 11) (M : SM) (X : (Int32 × SM) → Prop) (hR : ∀ v M', X (v, M') → ∀ (pc : Nat) (ls : List (Option Value)), decode jb_Sp_trout pc = .ok (.ireturn, 1) → narrow FieldType.int (.int v) = .int v → Wk p l e R s m args below meth c G 6 Q 0 0 jN0 (jce G M') pc ls [.int v]) : J X (f_Sp_trout a0 a1 a2 a3 M) (Wk p l e R s m args below meth c G 6 Q 0 0 jN0 (jce G M) 0 [some (.ref a0), some (.int a1), some (.int a2), some (.int a3), none, none] []) := by
  unfold f_Sp_trout
  refine J_mono (w_aload_n C (jd jdt_Sp_trout 0 rfl) rfl) ?_
  refine J_mono (w_iload_n C (jd jdt_Sp_trout 1 rfl) rfl) ?_
  refine J_bind (fun q1 hq1 => ?_)
  refine J_mono (jc_Sp_205 C hp0 (C_Sp_isCell l G F a0 a1 hp0 M hq1) rfl (Nat.le_trans (Nat.le_of_ble_eq_true rfl : 1 + 1 ≤ 4) hD) (jd jdt_Sp_trout 2 rfl)) ?_
  refine J_br (w_if_eq (y := 0) C (jd jdt_Sp_trout 3 rfl) rfl) (fun h2 => J_pos h2 ?_) (fun h2 => J_neg h2 ?_)
  · refine J_mono (w_iconst_m1 C (jd jdt_Sp_trout 13 rfl)) ?_
    exact J_some (fun hx => hR (-1) M hx _ _ (jd jdt_Sp_trout 14 rfl) rfl)
  · refine J_mono (w_iload_n C (jd jdt_Sp_trout 4 rfl) rfl) ?_
    refine J_mono (w_iconst_1 C (jd jdt_Sp_trout 5 rfl)) ?_
    refine J_br (w_icmp_lt C (jd jdt_Sp_trout 6 rfl) rfl) (fun h3 => J_pos h3 ?_) (fun h3 => J_neg h3 ?_)
    · refine J_mono (w_iconst_m1 C (jd jdt_Sp_trout 13 rfl)) ?_
      exact J_some (fun hx => hR (-1) M hx _ _ (jd jdt_Sp_trout 14 rfl) rfl)
    · refine J_mono (w_iload_n C (jd jdt_Sp_trout 7 rfl) rfl) ?_
      refine J_mono (w_bipush_50 C (jd jdt_Sp_trout 8 rfl)) ?_
      refine J_br (w_icmp_gt C (jd jdt_Sp_trout 9 rfl) rfl) (fun h4 => J_pos h4 ?_) (fun h4 => J_neg h4 ?_)
      · refine J_mono (w_iconst_m1 C (jd jdt_Sp_trout 13 rfl)) ?_
        exact J_some (fun hx => hR (-1) M hx _ _ (jd jdt_Sp_trout 14 rfl) rfl)
      · refine J_mono (w_iload_n C (jd jdt_Sp_trout 10 rfl) rfl) ?_
        refine J_bind (fun q5 hq5 => ?_)
        refine J_mono (jc_Sp_208 C (C_Sp_isBar l G F a3 M hq5) rfl (Nat.le_trans (Nat.le_of_ble_eq_true rfl : 1 + 1 ≤ 4) hD) (jd jdt_Sp_trout 11 rfl)) ?_
        refine J_br (w_if_ne (y := 0) C (jd jdt_Sp_trout 12 rfl) rfl) (fun h6 => J_pos h6 ?_) (fun h6 => J_neg h6 ?_)
        · refine J_mono (w_iconst_m1 C (jd jdt_Sp_trout 13 rfl)) ?_
          exact J_some (fun hx => hR (-1) M hx _ _ (jd jdt_Sp_trout 14 rfl) rfl)
        · refine J_mono (w_iconst_0 C (jd jdt_Sp_trout 15 rfl)) ?_
          refine J_mono (w_istore (ls' := [some (.ref a0), some (.int a1), some (.int a2), some (.int a3), some (.int 0), none]) C (jd jdt_Sp_trout 16 rfl) (by decide) rfl rfl) ?_
          refine J_mono (w_iconst_0 C (jd jdt_Sp_trout 17 rfl)) ?_
          refine J_mono (w_istore (ls' := [some (.ref a0), some (.int a1), some (.int a2), some (.int a3), some (.int 0), some (.int 0)]) C (jd jdt_Sp_trout 18 rfl) (by decide) rfl rfl) ?_
          have L34 : ∀ (y0 : Nat) (y1 : Int32) (y2 : Int32) (y3 : Int32) (hy0 : jkd y0 11) (n : Nat) (x4 : Int32) (x5 : Int32) (M : SM), J (fun (q11 : Int32 × SM) => Wk p l e R s m args below meth c G 6 Q 0 0 jN0 (jce G q11.2) 58 [none, none, none, none, some (.int q11.1), none] []) (lp_Sp_trout_34 y0 y1 y2 y3 n x4 x5 M) (Wk p l e R s m args below meth c G 6 Q 0 0 jN0 (jce G M) 34 [some (.ref y0), some (.int y1), some (.int y2), some (.int y3), some (.int x4), some (.int x5)] []) := by
            intro y0 y1 y2 y3 hy0 n
            induction n with
            | zero => intro x4 x5 M; exact J_none
            | succ n ih =>
              intro x4 x5 M
              unfold lp_Sp_trout_34
              refine J_mono (w_iload C (jd jdt_Sp_trout 19 rfl) rfl) ?_
              refine J_mono (w_iload_n C (jd jdt_Sp_trout 20 rfl) rfl) ?_
              refine J_br (w_icmp_ge C (jd jdt_Sp_trout 21 rfl) rfl) (fun h7 => J_pos h7 ?_) (fun h7 => J_neg h7 ?_)
              · refine J_mono (w_aload_n C (jd jdt_Sp_trout 22 rfl) rfl) ?_
                refine J_mono (w_iload_n C (jd jdt_Sp_trout 23 rfl) rfl) ?_
                refine J_mono (w_iload_n C (jd jdt_Sp_trout 24 rfl) rfl) ?_
                refine J_bind (fun q8 hq8 => ?_)
                refine J_mono (jc_Sp_296 C hy0 (C_Sp_swims l G F y0 y1 y3 hy0 M hq8) rfl (Nat.le_trans (Nat.le_of_ble_eq_true rfl : 3 + 1 ≤ 4) hD) (jd jdt_Sp_trout 25 rfl)) ?_
                refine J_seq (fun (q9 : Int32) => Wk p l e R s m args below meth c G 6 Q 0 0 jN0 (jce G q8.2) 52 [some (.ref y0), some (.int y1), some (.int y2), some (.int y3), some (.int q9), some (.int x5)] []) ?_ (fun q9 hq9 => ?_)
                · refine J_br (w_if_eq (y := 0) C (jd jdt_Sp_trout 26 rfl) rfl) (fun h10 => J_pos h10 ?_) (fun h10 => J_neg h10 ?_)
                  · exact J_some (fun hx => Wk_sb hx ⟨rfl, rfl, rfl, rfl, rfl, rfl, trivial⟩)
                  · refine J_mono (w_iinc (v := x4 + 1) (ls' := [some (.ref y0), some (.int y1), some (.int y2), some (.int y3), some (.int (x4 + 1)), some (.int x5)]) C (jd jdt_Sp_trout 27 rfl) rfl rfl (by decide) rfl rfl) ?_
                    exact J_some (fun hx => Wk_sb hx ⟨rfl, rfl, rfl, rfl, rfl, rfl, trivial⟩)
                · refine J_mono (w_iinc (v := x5 + 1) (ls' := [some (.ref y0), some (.int y1), some (.int y2), some (.int y3), some (.int q9), some (.int (x5 + 1))]) C (jd jdt_Sp_trout 28 rfl) rfl rfl (by decide) rfl rfl) ?_
                  refine J_mono (w_goto C (jd jdt_Sp_trout 29 rfl) rfl) ?_
                  exact J_sub (ih q9 (x5 + 1) q8.2) ⟨rfl, rfl, rfl, rfl, rfl, rfl, trivial⟩
              · exact J_some (fun hx => Wk_sb hx ⟨rfl, trivial⟩)
          refine J_seq (fun (q11 : Int32 × SM) => Wk p l e R s m args below meth c G 6 Q 0 0 jN0 (jce G q11.2) 58 [none, none, none, none, some (.int q11.1), none] []) (J_sub (L34 a0 a1 a2 a3 hp0 jfuel 0 0 M) ⟨rfl, rfl, rfl, rfl, rfl, rfl, trivial⟩) (fun q11 hq11 => ?_)
          refine J_mono (w_iload C (jd jdt_Sp_trout 30 rfl) rfl) ?_
          exact J_some (fun hx => hR q11.1 q11.2 hx _ _ (jd jdt_Sp_trout 31 rfl) rfl)
end
theorem C_Sp_trout (l : Launch) (G : JG) (F : jF G = false) (a0 : Nat) (a1 : Int32) (a2 : Int32) (a3 : Int32) (hp0 : jkd a0 11) (M : SM) {q : (Int32 × SM)} (hf : f_Sp_trout a0 a1 a2 a3 M = some q) : jMet l jy_Sp_trout jb_Sp_trout 6 (some FieldType.int) 4 0 0 G [.ref a0, .int a1, .int a2, .int a3] jN0 (jce G M) (some (.int q.1)) jN0 (jce G q.2) :=
  j_met jo_Sp_trout (by decide) (Nat.le_of_ble_eq_true rfl) (fun p e s m args below meth c C hr hm => K_Sp_trout C F (Nat.le_refl _) a0 a1 a2 a3 hp0 M (fun t => t = q) (fun v M' hX pc ls hd hn => by cases hX; exact w_iret C hr hn hd) _ hf rfl)
def f_Sp_seed (a0 : Nat) (a1 : Int32) (M : SM) : Option (Int32 × SM) := if a1 < 0 then (some (0, M)) else (some (1, sL M a0 12 a1.toInt64))
section
variable {p : Program} {l : Launch} {e : Env} {R : Room} {s : State} {m : MethodId} {args : Array Value} {below : List Frame} {meth : Method} {c : Code} {G : JG} {D : Nat} {Q : State → Prop}
set_option maxHeartbeats 4000000 in
set_option maxRecDepth 20000 in
theorem K_Sp_seed (C : jCx p R s m args meth c G jb_Sp_seed 2 D "SluicePit") (F : jF G = false) (hD : 1 ≤ D) (a0 : Nat) (a1 : Int32) (hp0 : jkd a0 11) (M : SM) (X : (Int32 × SM) → Prop) (hR : ∀ v M', X (v, M') → ∀ (pc : Nat) (ls : List (Option Value)), decode jb_Sp_seed pc = .ok (.ireturn, 1) → narrow FieldType.boolean (.int v) = .int v → Wk p l e R s m args below meth c G 2 Q 0 0 jN0 (jce G M') pc ls [.int v]) : J X (f_Sp_seed a0 a1 M) (Wk p l e R s m args below meth c G 2 Q 0 0 jN0 (jce G M) 0 [some (.ref a0), some (.int a1)] []) := by
  unfold f_Sp_seed
  refine J_mono (w_iload_n C (jd jdt_Sp_seed 0 rfl) rfl) ?_
  refine J_br (w_if_ge (y := 0) C (jd jdt_Sp_seed 1 rfl) rfl) (fun h1 => J_pos h1 ?_) (fun h1 => J_neg h1 ?_)
  · refine J_mono (w_iconst_0 C (jd jdt_Sp_seed 2 rfl)) ?_
    exact J_some (fun hx => hR 0 M hx _ _ (jd jdt_Sp_seed 3 rfl) rfl)
  · refine J_mono (w_aload_n C (jd jdt_Sp_seed 4 rfl) rfl) ?_
    refine J_mono (w_iload_n C (jd jdt_Sp_seed 5 rfl) rfl) ?_
    refine J_mono (w_i2l C (jd jdt_Sp_seed 6 rfl)) ?_
    refine J_mono (jp_Sp_91 C F hp0 (jd jdt_Sp_seed 7 rfl)) ?_
    refine J_mono (w_iconst_1 C (jd jdt_Sp_seed 8 rfl)) ?_
    exact J_some (fun hx => hR 1 (sL M a0 12 a1.toInt64) hx _ _ (jd jdt_Sp_seed 9 rfl) rfl)
end
theorem C_Sp_seed (l : Launch) (G : JG) (F : jF G = false) (a0 : Nat) (a1 : Int32) (hp0 : jkd a0 11) (M : SM) {q : (Int32 × SM)} (hf : f_Sp_seed a0 a1 M = some q) : jMet l jy_Sp_seed jb_Sp_seed 2 (some FieldType.boolean) 1 0 0 G [.ref a0, .int a1] jN0 (jce G M) (some (.int q.1)) jN0 (jce G q.2) :=
  j_met jo_Sp_seed (by decide) (Nat.le_of_ble_eq_true rfl) (fun p e s m args below meth c C hr hm => K_Sp_seed C F (Nat.le_refl _) a0 a1 hp0 M (fun t => t = q) (fun v M' hX pc ls hd hn => by cases hX; exact w_iret C hr hn hd) _ hf rfl)
def f_Re_isWord (a0 : Nat) (a1 : Nat) (M : SM) : Option Int32 := (f_Re_isPiece a0 a1 0 (jsln a1) M).bind fun q1 => (bchk q1).bind fun b2 => some b2
section
variable {p : Program} {l : Launch} {e : Env} {R : Room} {s : State} {m : MethodId} {args : Array Value} {below : List Frame} {meth : Method} {c : Code} {G : JG} {D : Nat} {Q : State → Prop}
set_option maxHeartbeats 4000000 in
set_option maxRecDepth 20000 in
theorem K_Re_isWord (C : jCx p R s m args meth c G jb_Re_isWord 2 D "SluicePit$Reader") (F : jF G = false) (hD : 8 ≤ D) (a0 : Nat) (a1 : Nat) (hp0 : jkd a0 7) (hp1 : jks a1) (M : SM) (X : Int32 → Prop) (hR : ∀ v, X v → ∀ (pc : Nat) (ls : List (Option Value)), decode jb_Re_isWord pc = .ok (.ireturn, 1) → narrow FieldType.boolean (.int v) = .int v → Wk p l e R s m args below meth c G 2 Q 0 0 jN0 (jce G M) pc ls [.int v]) : J X (f_Re_isWord a0 a1 M) (Wk p l e R s m args below meth c G 2 Q 0 0 jN0 (jce G M) 0 [some (.ref a0), some (.ref a1)] []) := by
  unfold f_Re_isWord
  refine J_mono (w_aload_n C (jd jdt_Re_isWord 0 rfl) rfl) ?_
  refine J_mono (w_aload_n C (jd jdt_Re_isWord 1 rfl) rfl) ?_
  refine J_mono (w_iconst_0 C (jd jdt_Re_isWord 2 rfl)) ?_
  refine J_mono (w_aload_n C (jd jdt_Re_isWord 3 rfl) rfl) ?_
  refine J_mono (jc_Re_61 C hp1 rfl (Nat.le_trans (Nat.le_of_ble_eq_true rfl : 2 + 1 ≤ 8) hD) (jd jdt_Re_isWord 4 rfl)) ?_
  refine J_bind (fun q1 hq1 => ?_)
  refine J_mono (jc_Re_67 C hp0 (C_Re_isPiece l G F a0 a1 0 (jsln a1) hp0 hp1 M hq1) rfl (Nat.le_trans (Nat.le_of_ble_eq_true rfl : 7 + 1 ≤ 8) hD) (jd jdt_Re_isWord 5 rfl)) ?_
  refine J_bind (fun b2 hb2 => ?_)
  obtain rfl := bchk_e hb2
  exact J_some (fun hx => hR _ hx _ _ (jd jdt_Re_isWord 6 rfl) (bchk_n hb2))
end
theorem C_Re_isWord (l : Launch) (G : JG) (F : jF G = false) (a0 : Nat) (a1 : Nat) (hp0 : jkd a0 7) (hp1 : jks a1) (M : SM) {q : Int32} (hf : f_Re_isWord a0 a1 M = some q) : jMet l jy_Re_isWord jb_Re_isWord 2 (some FieldType.boolean) 8 0 0 G [.ref a0, .ref a1] jN0 (jce G M) (some (.int q)) jN0 (jce G M) :=
  j_met jo_Re_isWord (by decide) (Nat.le_of_ble_eq_true rfl) (fun p e s m args below meth c C hr hm => K_Re_isWord C F (Nat.le_refl _) a0 a1 hp0 hp1 M (fun t => t = q) (fun v hX pc ls hd hn => by cases hX; exact w_iret C hr hn hd) _ hf rfl)
def f_Qu_mayOpen (a0 : Nat) (a1 : Int32) (M : SM) : Option (Int32 × SM) := if a1 < 6 then (some (1, M)) else ((f_Re_fail (jpf a0 0) 4 (M.1 (jpf a0 0) 3) M).bind fun q2 => if q2.1 = 0 then (some (0, q2.2)) else (some (1, q2.2)))
section
variable {p : Program} {l : Launch} {e : Env} {R : Room} {s : State} {m : MethodId} {args : Array Value} {below : List Frame} {meth : Method} {c : Code} {G : JG} {D : Nat} {Q : State → Prop}
set_option maxHeartbeats 4000000 in
set_option maxRecDepth 20000 in
theorem K_Qu_mayOpen (C : jCx p R s m args meth c G jb_Qu_mayOpen 2 D "SluicePit$Question") (F : jF G = false) (hD : 2 ≤ D) (a0 : Nat) (a1 : Int32) (hp0 : jkd a0 6) (M : SM) (X : (Int32 × SM) → Prop) (hR : ∀ v M', X (v, M') → ∀ (pc : Nat) (ls : List (Option Value)), decode jb_Qu_mayOpen pc = .ok (.ireturn, 1) → narrow FieldType.boolean (.int v) = .int v → Wk p l e R s m args below meth c G 2 Q 0 0 jN0 (jce G M') pc ls [.int v]) : J X (f_Qu_mayOpen a0 a1 M) (Wk p l e R s m args below meth c G 2 Q 0 0 jN0 (jce G M) 0 [some (.ref a0), some (.int a1)] []) := by
  unfold f_Qu_mayOpen
  refine J_mono (w_iload_n C (jd jdt_Qu_mayOpen 0 rfl) rfl) ?_
  refine J_mono (w_bipush_6 C (jd jdt_Qu_mayOpen 1 rfl)) ?_
  refine J_br (w_icmp_lt C (jd jdt_Qu_mayOpen 2 rfl) rfl) (fun h1 => J_pos h1 ?_) (fun h1 => J_neg h1 ?_)
  · refine J_mono (w_iconst_1 C (jd jdt_Qu_mayOpen 11 rfl)) ?_
    refine J_mono (w_goto C (jd jdt_Qu_mayOpen 12 rfl) rfl) ?_
    exact J_some (fun hx => hR 1 M hx _ _ (jd jdt_Qu_mayOpen 14 rfl) rfl)
  · refine J_mono (w_aload_n C (jd jdt_Qu_mayOpen 3 rfl) rfl) ?_
    refine J_mono (jg_Qu_9 C hp0 (jd jdt_Qu_mayOpen 4 rfl)) ?_
    refine J_mono (w_iconst_4 C (jd jdt_Qu_mayOpen 5 rfl)) ?_
    refine J_mono (w_aload_n C (jd jdt_Qu_mayOpen 6 rfl) rfl) ?_
    refine J_mono (jg_Qu_9 C hp0 (jd jdt_Qu_mayOpen 7 rfl)) ?_
    refine J_mono (jg_Qu_79 C (jkf_6_0 hp0) (jd jdt_Qu_mayOpen 8 rfl)) ?_
    refine J_bind (fun q2 hq2 => ?_)
    refine J_mono (jc_Qu_82 C (jkf_6_0 hp0) (C_Re_fail l G F (jpf a0 0) 4 (M.1 (jpf a0 0) 3) (jkf_6_0 hp0) M hq2) rfl (Nat.le_trans (Nat.le_of_ble_eq_true rfl : 1 + 1 ≤ 2) hD) (jd jdt_Qu_mayOpen 9 rfl)) ?_
    refine J_br (w_if_eq (y := 0) C (jd jdt_Qu_mayOpen 10 rfl) rfl) (fun h3 => J_pos h3 ?_) (fun h3 => J_neg h3 ?_)
    · refine J_mono (w_iconst_0 C (jd jdt_Qu_mayOpen 13 rfl)) ?_
      exact J_some (fun hx => hR 0 q2.2 hx _ _ (jd jdt_Qu_mayOpen 14 rfl) rfl)
    · refine J_mono (w_iconst_1 C (jd jdt_Qu_mayOpen 11 rfl)) ?_
      refine J_mono (w_goto C (jd jdt_Qu_mayOpen 12 rfl) rfl) ?_
      exact J_some (fun hx => hR 1 q2.2 hx _ _ (jd jdt_Qu_mayOpen 14 rfl) rfl)
end
theorem C_Qu_mayOpen (l : Launch) (G : JG) (F : jF G = false) (a0 : Nat) (a1 : Int32) (hp0 : jkd a0 6) (M : SM) {q : (Int32 × SM)} (hf : f_Qu_mayOpen a0 a1 M = some q) : jMet l jy_Qu_mayOpen jb_Qu_mayOpen 2 (some FieldType.boolean) 2 0 0 G [.ref a0, .int a1] jN0 (jce G M) (some (.int q.1)) jN0 (jce G q.2) :=
  j_met jo_Qu_mayOpen (by decide) (Nat.le_of_ble_eq_true rfl) (fun p e s m args below meth c C hr hm => K_Qu_mayOpen C F (Nat.le_refl _) a0 a1 hp0 M (fun t => t = q) (fun v M' hX pc ls hd hn => by cases hX; exact w_iret C hr hn hd) _ hf rfl)
def lp_Qu_addNumber_2 (y0 : Nat) (y1 : Int32) : Nat → Int32 → SM → Option (SM)
  | 0, _, _ => none
  | n + 1, x2, M => if 60 < x2 then (some M) else ((f_Sp_putCell (jpf y0 2) (M.1 y0 3) x2 y1 M).bind fun q2 => lp_Qu_addNumber_2 y0 y1 n (x2 + 1) q2)
def f_Qu_addNumber (a0 : Nat) (a1 : Int32) (M : SM) : Option SM := (lp_Qu_addNumber_2 a0 a1 jfuel 0 M).bind fun q3 => some (sI q3 a0 3 ((q3.1 a0 3) + 1))
section
variable {p : Program} {l : Launch} {e : Env} {R : Room} {s : State} {m : MethodId} {args : Array Value} {below : List Frame} {meth : Method} {c : Code} {G : JG} {D : Nat} {Q : State → Prop}
set_option maxHeartbeats 4000000 in
set_option maxRecDepth 20000 in
theorem K_Qu_addNumber (C : jCx p R s m args meth c G jb_Qu_addNumber 3 D "SluicePit$Question") (F : jF G = false) (hD : 2 ≤ D) (a0 : Nat) (a1 : Int32) (hp0 : jkd a0 6) (M : SM) (X : SM → Prop) (hR : ∀ M', X M' → ∀ (pc : Nat) (ls : List (Option Value)), decode jb_Qu_addNumber pc = .ok (.return_, 1) → Wk p l e R s m args below meth c G 3 Q 0 0 jN0 (jce G M') pc ls []) : J X (f_Qu_addNumber a0 a1 M) (Wk p l e R s m args below meth c G 3 Q 0 0 jN0 (jce G M) 0 [some (.ref a0), some (.int a1), none] []) := by
  unfold f_Qu_addNumber
  refine J_mono (w_iconst_0 C (jd jdt_Qu_addNumber 0 rfl)) ?_
  refine J_mono (w_istore_n (ls' := [some (.ref a0), some (.int a1), some (.int 0)]) C (jd jdt_Qu_addNumber 1 rfl) (by decide) rfl rfl) ?_
  have L2 : ∀ (y0 : Nat) (y1 : Int32) (hy0 : jkd y0 6) (n : Nat) (x2 : Int32) (M : SM), J (fun (q3 : SM) => Wk p l e R s m args below meth c G 3 Q 0 0 jN0 (jce G q3) 27 [some (.ref y0), none, none] []) (lp_Qu_addNumber_2 y0 y1 n x2 M) (Wk p l e R s m args below meth c G 3 Q 0 0 jN0 (jce G M) 2 [some (.ref y0), some (.int y1), some (.int x2)] []) := by
    intro y0 y1 hy0 n
    induction n with
    | zero => intro x2 M; exact J_none
    | succ n ih =>
      intro x2 M
      unfold lp_Qu_addNumber_2
      refine J_mono (w_iload_n C (jd jdt_Qu_addNumber 2 rfl) rfl) ?_
      refine J_mono (w_bipush_60 C (jd jdt_Qu_addNumber 3 rfl)) ?_
      refine J_br (w_icmp_gt C (jd jdt_Qu_addNumber 4 rfl) rfl) (fun h1 => J_pos h1 ?_) (fun h1 => J_neg h1 ?_)
      · exact J_some (fun hx => Wk_sb hx ⟨rfl, trivial⟩)
      · refine J_mono (w_aload_n C (jd jdt_Qu_addNumber 5 rfl) rfl) ?_
        refine J_mono (jg_Qu_25 C hy0 (jd jdt_Qu_addNumber 6 rfl)) ?_
        refine J_mono (w_aload_n C (jd jdt_Qu_addNumber 7 rfl) rfl) ?_
        refine J_mono (jg_Qu_28 C hy0 (jd jdt_Qu_addNumber 8 rfl)) ?_
        refine J_mono (w_iload_n C (jd jdt_Qu_addNumber 9 rfl) rfl) ?_
        refine J_mono (w_iload_n C (jd jdt_Qu_addNumber 10 rfl) rfl) ?_
        refine J_bind (fun q2 hq2 => ?_)
        refine J_mono (jc_Qu_128 C (C_Sp_putCell l G F (jpf y0 2) (M.1 y0 3) x2 y1 (jkf_6_2 hy0) M hq2) rfl (Nat.le_trans (Nat.le_of_ble_eq_true rfl : 1 + 1 ≤ 2) hD) (jd jdt_Qu_addNumber 11 rfl)) ?_
        refine J_mono (w_iinc (v := x2 + 1) (ls' := [some (.ref y0), some (.int y1), some (.int (x2 + 1))]) C (jd jdt_Qu_addNumber 12 rfl) rfl rfl (by decide) rfl rfl) ?_
        refine J_mono (w_goto C (jd jdt_Qu_addNumber 13 rfl) rfl) ?_
        exact J_sub (ih (x2 + 1) q2) ⟨rfl, rfl, rfl, trivial⟩
  refine J_seq (fun (q3 : SM) => Wk p l e R s m args below meth c G 3 Q 0 0 jN0 (jce G q3) 27 [some (.ref a0), none, none] []) (J_sub (L2 a0 a1 hp0 jfuel 0 M) ⟨rfl, rfl, rfl, trivial⟩) (fun q3 hq3 => ?_)
  refine J_mono (w_aload_n C (jd jdt_Qu_addNumber 14 rfl) rfl) ?_
  refine J_mono (w_dup_r C (jd jdt_Qu_addNumber 15 rfl)) ?_
  refine J_mono (jg_Qu_28 C hp0 (jd jdt_Qu_addNumber 16 rfl)) ?_
  refine J_mono (w_iconst_1 C (jd jdt_Qu_addNumber 17 rfl)) ?_
  refine J_mono (w_iadd C (jd jdt_Qu_addNumber 18 rfl)) ?_
  refine J_mono (jp_Qu_28 C F hp0 (jd jdt_Qu_addNumber 19 rfl)) ?_
  exact J_some (fun hx => hR (sI q3 a0 3 ((q3.1 a0 3) + 1)) hx _ _ (jd jdt_Qu_addNumber 20 rfl))
end
theorem C_Qu_addNumber (l : Launch) (G : JG) (F : jF G = false) (a0 : Nat) (a1 : Int32) (hp0 : jkd a0 6) (M : SM) {q : SM} (hf : f_Qu_addNumber a0 a1 M = some q) : jMet l jy_Qu_addNumber jb_Qu_addNumber 3 none 2 0 0 G [.ref a0, .int a1] jN0 (jce G M) none jN0 (jce G q) :=
  j_met jo_Qu_addNumber (by decide) (Nat.le_of_ble_eq_true rfl) (fun p e s m args below meth c C hr hm => K_Qu_addNumber C F (Nat.le_refl _) a0 a1 hp0 M (fun t => t = q) (fun M' hX pc ls hd => by cases hX; exact w_vret C hr hd) _ hf rfl)
def f_Re_isSomeNumber (a0 : Nat) (M : SM) : Option Int32 := if (M.1 a0 1) = 2 then (some 1) else (some 0)
section
variable {p : Program} {l : Launch} {e : Env} {R : Room} {s : State} {m : MethodId} {args : Array Value} {below : List Frame} {meth : Method} {c : Code} {G : JG} {D : Nat} {Q : State → Prop}
set_option maxHeartbeats 4000000 in
set_option maxRecDepth 20000 in
theorem K_Re_isSomeNumber (C : jCx p R s m args meth c G jb_Re_isSomeNumber 1 D "SluicePit$Reader") (F : jF G = false) (hD : 1 ≤ D) (a0 : Nat) (hp0 : jkd a0 7) (M : SM) (X : Int32 → Prop) (hR : ∀ v, X v → ∀ (pc : Nat) (ls : List (Option Value)), decode jb_Re_isSomeNumber pc = .ok (.ireturn, 1) → narrow FieldType.boolean (.int v) = .int v → Wk p l e R s m args below meth c G 1 Q 0 0 jN0 (jce G M) pc ls [.int v]) : J X (f_Re_isSomeNumber a0 M) (Wk p l e R s m args below meth c G 1 Q 0 0 jN0 (jce G M) 0 [some (.ref a0)] []) := by
  unfold f_Re_isSomeNumber
  refine J_mono (w_aload_n C (jd jdt_Re_isSomeNumber 0 rfl) rfl) ?_
  refine J_mono (jg_Re_19 C hp0 (jd jdt_Re_isSomeNumber 1 rfl)) ?_
  refine J_mono (w_iconst_2 C (jd jdt_Re_isSomeNumber 2 rfl)) ?_
  refine J_br (w_icmp_ne C (jd jdt_Re_isSomeNumber 3 rfl) rfl) (fun h1 => J_pos h1 ?_) (fun h1 => J_neg h1 ?_)
  · refine J_mono (w_iconst_1 C (jd jdt_Re_isSomeNumber 4 rfl)) ?_
    refine J_mono (w_goto C (jd jdt_Re_isSomeNumber 5 rfl) rfl) ?_
    exact J_some (fun hx => hR 1 hx _ _ (jd jdt_Re_isSomeNumber 7 rfl) rfl)
  · refine J_mono (w_iconst_0 C (jd jdt_Re_isSomeNumber 6 rfl)) ?_
    exact J_some (fun hx => hR 0 hx _ _ (jd jdt_Re_isSomeNumber 7 rfl) rfl)
end
theorem C_Re_isSomeNumber (l : Launch) (G : JG) (F : jF G = false) (a0 : Nat) (hp0 : jkd a0 7) (M : SM) {q : Int32} (hf : f_Re_isSomeNumber a0 M = some q) : jMet l jy_Re_isSomeNumber jb_Re_isSomeNumber 1 (some FieldType.boolean) 1 0 0 G [.ref a0] jN0 (jce G M) (some (.int q)) jN0 (jce G M) :=
  j_met jo_Re_isSomeNumber (by decide) (Nat.le_of_ble_eq_true rfl) (fun p e s m args below meth c C hr hm => K_Re_isSomeNumber C F (Nat.le_refl _) a0 hp0 M (fun t => t = q) (fun v hX pc ls hd hn => by cases hX; exact w_iret C hr hn hd) _ hf rfl)
def f_Qu_waterOf (a0 : Nat) (a1 : Int32) (a2 : Int32) (M : SM) : Option Int32 := if a1 < 0 then (some 0) else (if a1 < (M.1 (jop (M.1 a0 4)) 1) then ((f_Ru_water (jpf a0 1) a2 a1 M).bind fun q3 => some q3) else (some 0))
section
variable {p : Program} {l : Launch} {e : Env} {R : Room} {s : State} {m : MethodId} {args : Array Value} {below : List Frame} {meth : Method} {c : Code} {G : JG} {D : Nat} {Q : State → Prop}
set_option maxHeartbeats 4000000 in
set_option maxRecDepth 20000 in
theorem K_Qu_waterOf (C : jCx p R s m args meth c G jb_Qu_waterOf 3 D "SluicePit$Question") (F : jF G = false) (hD : 3 ≤ D) (a0 : Nat) (a1 : Int32) (a2 : Int32) (hp0 : jkd a0 6) (M : SM) (X : Int32 → Prop) (hR : ∀ v, X v → ∀ (pc : Nat) (ls : List (Option Value)), decode jb_Qu_waterOf pc = .ok (.ireturn, 1) → narrow FieldType.int (.int v) = .int v → Wk p l e R s m args below meth c G 3 Q 0 0 jN0 (jce G M) pc ls [.int v]) : J X (f_Qu_waterOf a0 a1 a2 M) (Wk p l e R s m args below meth c G 3 Q 0 0 jN0 (jce G M) 0 [some (.ref a0), some (.int a1), some (.int a2)] []) := by
  unfold f_Qu_waterOf
  refine J_mono (w_iload_n C (jd jdt_Qu_waterOf 0 rfl) rfl) ?_
  refine J_br (w_if_lt (y := 0) C (jd jdt_Qu_waterOf 1 rfl) rfl) (fun h1 => J_pos h1 ?_) (fun h1 => J_neg h1 ?_)
  · refine J_mono (w_iconst_0 C (jd jdt_Qu_waterOf 13 rfl)) ?_
    exact J_some (fun hx => hR 0 hx _ _ (jd jdt_Qu_waterOf 14 rfl) rfl)
  · refine J_mono (w_iload_n C (jd jdt_Qu_waterOf 2 rfl) rfl) ?_
    refine J_mono (w_aload_n C (jd jdt_Qu_waterOf 3 rfl) rfl) ?_
    refine J_mono (jg_Qu_19 C hp0 (jd jdt_Qu_waterOf 4 rfl)) ?_
    refine J_mono (jg_Qu_182 C (jop_kd _) (jd jdt_Qu_waterOf 5 rfl)) ?_
    refine J_br (w_icmp_ge C (jd jdt_Qu_waterOf 6 rfl) rfl) (fun h2 => J_pos h2 ?_) (fun h2 => J_neg h2 ?_)
    · refine J_mono (w_aload_n C (jd jdt_Qu_waterOf 7 rfl) rfl) ?_
      refine J_mono (jg_Qu_15 C hp0 (jd jdt_Qu_waterOf 8 rfl)) ?_
      refine J_mono (w_iload_n C (jd jdt_Qu_waterOf 9 rfl) rfl) ?_
      refine J_mono (w_iload_n C (jd jdt_Qu_waterOf 10 rfl) rfl) ?_
      refine J_bind (fun q3 hq3 => ?_)
      refine J_mono (jc_Qu_187 C (jkf_6_1 hp0) (C_Ru_water l G F (jpf a0 1) a2 a1 (jkf_6_1 hp0) M hq3) rfl (Nat.le_trans (Nat.le_of_ble_eq_true rfl : 2 + 1 ≤ 3) hD) (jd jdt_Qu_waterOf 11 rfl)) ?_
      refine J_mono (w_goto C (jd jdt_Qu_waterOf 12 rfl) rfl) ?_
      exact J_some (fun hx => hR q3 hx _ _ (jd jdt_Qu_waterOf 14 rfl) rfl)
    · refine J_mono (w_iconst_0 C (jd jdt_Qu_waterOf 13 rfl)) ?_
      exact J_some (fun hx => hR 0 hx _ _ (jd jdt_Qu_waterOf 14 rfl) rfl)
end
theorem C_Qu_waterOf (l : Launch) (G : JG) (F : jF G = false) (a0 : Nat) (a1 : Int32) (a2 : Int32) (hp0 : jkd a0 6) (M : SM) {q : Int32} (hf : f_Qu_waterOf a0 a1 a2 M = some q) : jMet l jy_Qu_waterOf jb_Qu_waterOf 3 (some FieldType.int) 3 0 0 G [.ref a0, .int a1, .int a2] jN0 (jce G M) (some (.int q)) jN0 (jce G M) :=
  j_met jo_Qu_waterOf (by decide) (Nat.le_of_ble_eq_true rfl) (fun p e s m args below meth c C hr hm => K_Qu_waterOf C F (Nat.le_refl _) a0 a1 a2 hp0 M (fun t => t = q) (fun v hX pc ls hd hn => by cases hX; exact w_iret C hr hn hd) _ hf rfl)
def f_Qu_boatOf (a0 : Nat) (a1 : Int32) (a2 : Int32) (M : SM) : Option Int32 := (f_St_holds (jpf (jop (M.1 a0 4)) 11) a1 M).bind fun q1 => if q1 = 0 then (some 0) else ((f_Ru_boatCell (jpf a0 1) a2 a1 M).bind fun q3 => some q3)
section
variable {p : Program} {l : Launch} {e : Env} {R : Room} {s : State} {m : MethodId} {args : Array Value} {below : List Frame} {meth : Method} {c : Code} {G : JG} {D : Nat} {Q : State → Prop}
set_option maxHeartbeats 4000000 in
set_option maxRecDepth 20000 in
theorem K_Qu_boatOf (C : jCx p R s m args meth c G jb_Qu_boatOf 3 D "SluicePit$Question") (F : jF G = false) (hD : 3 ≤ D) (a0 : Nat) (a1 : Int32) (a2 : Int32) (hp0 : jkd a0 6) (M : SM) (X : Int32 → Prop) (hR : ∀ v, X v → ∀ (pc : Nat) (ls : List (Option Value)), decode jb_Qu_boatOf pc = .ok (.ireturn, 1) → narrow FieldType.int (.int v) = .int v → Wk p l e R s m args below meth c G 3 Q 0 0 jN0 (jce G M) pc ls [.int v]) : J X (f_Qu_boatOf a0 a1 a2 M) (Wk p l e R s m args below meth c G 3 Q 0 0 jN0 (jce G M) 0 [some (.ref a0), some (.int a1), some (.int a2)] []) := by
  unfold f_Qu_boatOf
  refine J_mono (w_aload_n C (jd jdt_Qu_boatOf 0 rfl) rfl) ?_
  refine J_mono (jg_Qu_19 C hp0 (jd jdt_Qu_boatOf 1 rfl)) ?_
  refine J_mono (jg_Qu_192 C (jop_kd _) (jd jdt_Qu_boatOf 2 rfl)) ?_
  refine J_mono (w_iload_n C (jd jdt_Qu_boatOf 3 rfl) rfl) ?_
  refine J_bind (fun q1 hq1 => ?_)
  refine J_mono (jc_Qu_196 C (jkf_1_11 (jop_kd _)) (C_St_holds l G F (jpf (jop (M.1 a0 4)) 11) a1 (jkf_1_11 (jop_kd _)) M hq1) rfl (Nat.le_trans (Nat.le_of_ble_eq_true rfl : 1 + 1 ≤ 3) hD) (jd jdt_Qu_boatOf 4 rfl)) ?_
  refine J_br (w_if_eq (y := 0) C (jd jdt_Qu_boatOf 5 rfl) rfl) (fun h2 => J_pos h2 ?_) (fun h2 => J_neg h2 ?_)
  · refine J_mono (w_iconst_0 C (jd jdt_Qu_boatOf 12 rfl)) ?_
    exact J_some (fun hx => hR 0 hx _ _ (jd jdt_Qu_boatOf 13 rfl) rfl)
  · refine J_mono (w_aload_n C (jd jdt_Qu_boatOf 6 rfl) rfl) ?_
    refine J_mono (jg_Qu_15 C hp0 (jd jdt_Qu_boatOf 7 rfl)) ?_
    refine J_mono (w_iload_n C (jd jdt_Qu_boatOf 8 rfl) rfl) ?_
    refine J_mono (w_iload_n C (jd jdt_Qu_boatOf 9 rfl) rfl) ?_
    refine J_bind (fun q3 hq3 => ?_)
    refine J_mono (jc_Qu_201 C (jkf_6_1 hp0) (C_Ru_boatCell l G F (jpf a0 1) a2 a1 (jkf_6_1 hp0) M hq3) rfl (Nat.le_trans (Nat.le_of_ble_eq_true rfl : 2 + 1 ≤ 3) hD) (jd jdt_Qu_boatOf 10 rfl)) ?_
    refine J_mono (w_goto C (jd jdt_Qu_boatOf 11 rfl) rfl) ?_
    exact J_some (fun hx => hR q3 hx _ _ (jd jdt_Qu_boatOf 13 rfl) rfl)
end
theorem C_Qu_boatOf (l : Launch) (G : JG) (F : jF G = false) (a0 : Nat) (a1 : Int32) (a2 : Int32) (hp0 : jkd a0 6) (M : SM) {q : Int32} (hf : f_Qu_boatOf a0 a1 a2 M = some q) : jMet l jy_Qu_boatOf jb_Qu_boatOf 3 (some FieldType.int) 3 0 0 G [.ref a0, .int a1, .int a2] jN0 (jce G M) (some (.int q)) jN0 (jce G M) :=
  j_met jo_Qu_boatOf (by decide) (Nat.le_of_ble_eq_true rfl) (fun p e s m args below meth c C hr hm => K_Qu_boatOf C F (Nat.le_refl _) a0 a1 a2 hp0 M (fun t => t = q) (fun v hX pc ls hd hn => by cases hX; exact w_iret C hr hn hd) _ hf rfl)
def lp_Qu_addMeasure_2 (y0 : Nat) (y1 : Int32) : Nat → Int32 → SM → Option (SM)
  | 0, _, _ => none
  | n + 1, x2, M => if 60 < x2 then (some M) else ((if y1 = 5 then ((f_Ru_measure (jpf y0 1) x2 5 M).bind fun q4 => (f_Ru_measure (jpf y0 1) (x2 - 1) 5 M).bind fun q5 => some (q4 - q5)) else (if y1 = 0 then (some x2) else ((f_Ru_measure (jpf y0 1) x2 (y1 - 1) M).bind fun q7 => some q7)) : Option (Int32)).bind fun q2 => (f_Sp_putCell (jpf y0 2) (M.1 y0 3) x2 q2 M).bind fun q8 => lp_Qu_addMeasure_2 y0 y1 n (x2 + 1) q8)
def f_Qu_addMeasure (a0 : Nat) (a1 : Int32) (M : SM) : Option SM := (lp_Qu_addMeasure_2 a0 a1 jfuel 0 M).bind fun q9 => some (sI q9 a0 3 ((q9.1 a0 3) + 1))
section
variable {p : Program} {l : Launch} {e : Env} {R : Room} {s : State} {m : MethodId} {args : Array Value} {below : List Frame} {meth : Method} {c : Code} {G : JG} {D : Nat} {Q : State → Prop}
set_option maxHeartbeats 4000000 in
set_option maxRecDepth 20000 in
theorem K_Qu_addMeasure (C : jCx p R s m args meth c G jb_Qu_addMeasure 4 D "SluicePit$Question") (F : jF G = false) (hD : 3 ≤ D) (a0 : Nat) (a1 : Int32) (hp0 : jkd a0 6) (M : SM) (X : SM → Prop) (hR : ∀ M', X M' → ∀ (pc : Nat) (ls : List (Option Value)), decode jb_Qu_addMeasure pc = .ok (.return_, 1) → Wk p l e R s m args below meth c G 4 Q 0 0 jN0 (jce G M') pc ls []) : J X (f_Qu_addMeasure a0 a1 M) (Wk p l e R s m args below meth c G 4 Q 0 0 jN0 (jce G M) 0 [some (.ref a0), some (.int a1), none, none] []) := by
  unfold f_Qu_addMeasure
  refine J_mono (w_iconst_0 C (jd jdt_Qu_addMeasure 0 rfl)) ?_
  refine J_mono (w_istore_n (ls' := [some (.ref a0), some (.int a1), some (.int 0), none]) C (jd jdt_Qu_addMeasure 1 rfl) (by decide) rfl rfl) ?_
  have L2 : ∀ (y0 : Nat) (y1 : Int32) (hy0 : jkd y0 6) (n : Nat) (x2 : Int32) (M : SM), J (fun (q9 : SM) => Wk p l e R s m args below meth c G 4 Q 0 0 jN0 (jce G q9) 75 [some (.ref y0), none, none, none] []) (lp_Qu_addMeasure_2 y0 y1 n x2 M) (Wk p l e R s m args below meth c G 4 Q 0 0 jN0 (jce G M) 2 [some (.ref y0), some (.int y1), some (.int x2), none] []) := by
    intro y0 y1 hy0 n
    induction n with
    | zero => intro x2 M; exact J_none
    | succ n ih =>
      intro x2 M
      unfold lp_Qu_addMeasure_2
      refine J_mono (w_iload_n C (jd jdt_Qu_addMeasure 2 rfl) rfl) ?_
      refine J_mono (w_bipush_60 C (jd jdt_Qu_addMeasure 3 rfl)) ?_
      refine J_br (w_icmp_gt C (jd jdt_Qu_addMeasure 4 rfl) rfl) (fun h1 => J_pos h1 ?_) (fun h1 => J_neg h1 ?_)
      · exact J_some (fun hx => Wk_sb hx ⟨rfl, trivial⟩)
      · refine J_mono (w_iload_n C (jd jdt_Qu_addMeasure 5 rfl) rfl) ?_
        refine J_mono (w_istore_n (ls' := [some (.ref y0), some (.int y1), some (.int x2), some (.int x2)]) C (jd jdt_Qu_addMeasure 6 rfl) (by decide) rfl rfl) ?_
        refine J_mono (w_iload_n C (jd jdt_Qu_addMeasure 7 rfl) rfl) ?_
        refine J_mono (w_iconst_5 C (jd jdt_Qu_addMeasure 8 rfl)) ?_
        refine J_seq (fun (q2 : Int32) => Wk p l e R s m args below meth c G 4 Q 0 0 jN0 (jce G M) 56 [some (.ref y0), some (.int y1), some (.int x2), some (.int q2)] []) ?_ (fun q2 hq2 => ?_)
        · refine J_br (w_icmp_ne C (jd jdt_Qu_addMeasure 9 rfl) rfl) (fun h3 => J_pos h3 ?_) (fun h3 => J_neg h3 ?_)
          · refine J_mono (w_aload_n C (jd jdt_Qu_addMeasure 10 rfl) rfl) ?_
            refine J_mono (jg_Qu_15 C hy0 (jd jdt_Qu_addMeasure 11 rfl)) ?_
            refine J_mono (w_iload_n C (jd jdt_Qu_addMeasure 12 rfl) rfl) ?_
            refine J_mono (w_iconst_5 C (jd jdt_Qu_addMeasure 13 rfl)) ?_
            refine J_bind (fun q4 hq4 => ?_)
            refine J_mono (jc_Qu_204 C (jkf_6_1 hy0) (C_Ru_measure l G F (jpf y0 1) x2 5 (jkf_6_1 hy0) M hq4) rfl (Nat.le_trans (Nat.le_of_ble_eq_true rfl : 2 + 1 ≤ 3) hD) (jd jdt_Qu_addMeasure 14 rfl)) ?_
            refine J_mono (w_aload_n C (jd jdt_Qu_addMeasure 15 rfl) rfl) ?_
            refine J_mono (jg_Qu_15 C hy0 (jd jdt_Qu_addMeasure 16 rfl)) ?_
            refine J_mono (w_iload_n C (jd jdt_Qu_addMeasure 17 rfl) rfl) ?_
            refine J_mono (w_iconst_1 C (jd jdt_Qu_addMeasure 18 rfl)) ?_
            refine J_mono (w_isub C (jd jdt_Qu_addMeasure 19 rfl)) ?_
            refine J_mono (w_iconst_5 C (jd jdt_Qu_addMeasure 20 rfl)) ?_
            refine J_bind (fun q5 hq5 => ?_)
            refine J_mono (jc_Qu_204 C (jkf_6_1 hy0) (C_Ru_measure l G F (jpf y0 1) (x2 - 1) 5 (jkf_6_1 hy0) M hq5) rfl (Nat.le_trans (Nat.le_of_ble_eq_true rfl : 2 + 1 ≤ 3) hD) (jd jdt_Qu_addMeasure 21 rfl)) ?_
            refine J_mono (w_isub C (jd jdt_Qu_addMeasure 22 rfl)) ?_
            refine J_mono (w_istore_n (ls' := [some (.ref y0), some (.int y1), some (.int x2), some (.int (q4 - q5))]) C (jd jdt_Qu_addMeasure 23 rfl) (by decide) rfl rfl) ?_
            refine J_mono (w_goto C (jd jdt_Qu_addMeasure 24 rfl) rfl) ?_
            exact J_some (fun hx => Wk_sb hx ⟨rfl, rfl, rfl, rfl, trivial⟩)
          · refine J_mono (w_iload_n C (jd jdt_Qu_addMeasure 25 rfl) rfl) ?_
            refine J_br (w_if_eq (y := 0) C (jd jdt_Qu_addMeasure 26 rfl) rfl) (fun h6 => J_pos h6 ?_) (fun h6 => J_neg h6 ?_)
            · exact J_some (fun hx => Wk_sb hx ⟨rfl, rfl, rfl, rfl, trivial⟩)
            · refine J_mono (w_aload_n C (jd jdt_Qu_addMeasure 27 rfl) rfl) ?_
              refine J_mono (jg_Qu_15 C hy0 (jd jdt_Qu_addMeasure 28 rfl)) ?_
              refine J_mono (w_iload_n C (jd jdt_Qu_addMeasure 29 rfl) rfl) ?_
              refine J_mono (w_iload_n C (jd jdt_Qu_addMeasure 30 rfl) rfl) ?_
              refine J_mono (w_iconst_1 C (jd jdt_Qu_addMeasure 31 rfl)) ?_
              refine J_mono (w_isub C (jd jdt_Qu_addMeasure 32 rfl)) ?_
              refine J_bind (fun q7 hq7 => ?_)
              refine J_mono (jc_Qu_204 C (jkf_6_1 hy0) (C_Ru_measure l G F (jpf y0 1) x2 (y1 - 1) (jkf_6_1 hy0) M hq7) rfl (Nat.le_trans (Nat.le_of_ble_eq_true rfl : 2 + 1 ≤ 3) hD) (jd jdt_Qu_addMeasure 33 rfl)) ?_
              refine J_mono (w_istore_n (ls' := [some (.ref y0), some (.int y1), some (.int x2), some (.int q7)]) C (jd jdt_Qu_addMeasure 34 rfl) (by decide) rfl rfl) ?_
              exact J_some (fun hx => Wk_sb hx ⟨rfl, rfl, rfl, rfl, trivial⟩)
        · refine J_mono (w_aload_n C (jd jdt_Qu_addMeasure 35 rfl) rfl) ?_
          refine J_mono (jg_Qu_25 C hy0 (jd jdt_Qu_addMeasure 36 rfl)) ?_
          refine J_mono (w_aload_n C (jd jdt_Qu_addMeasure 37 rfl) rfl) ?_
          refine J_mono (jg_Qu_28 C hy0 (jd jdt_Qu_addMeasure 38 rfl)) ?_
          refine J_mono (w_iload_n C (jd jdt_Qu_addMeasure 39 rfl) rfl) ?_
          refine J_mono (w_iload_n C (jd jdt_Qu_addMeasure 40 rfl) rfl) ?_
          refine J_bind (fun q8 hq8 => ?_)
          refine J_mono (jc_Qu_128 C (C_Sp_putCell l G F (jpf y0 2) (M.1 y0 3) x2 q2 (jkf_6_2 hy0) M hq8) rfl (Nat.le_trans (Nat.le_of_ble_eq_true rfl : 1 + 1 ≤ 3) hD) (jd jdt_Qu_addMeasure 41 rfl)) ?_
          refine J_mono (w_iinc (v := x2 + 1) (ls' := [some (.ref y0), some (.int y1), some (.int (x2 + 1)), some (.int q2)]) C (jd jdt_Qu_addMeasure 42 rfl) rfl rfl (by decide) rfl rfl) ?_
          refine J_mono (w_goto C (jd jdt_Qu_addMeasure 43 rfl) rfl) ?_
          exact J_sub (ih (x2 + 1) q8) ⟨rfl, rfl, rfl, trivial⟩
  refine J_seq (fun (q9 : SM) => Wk p l e R s m args below meth c G 4 Q 0 0 jN0 (jce G q9) 75 [some (.ref a0), none, none, none] []) (J_sub (L2 a0 a1 hp0 jfuel 0 M) ⟨rfl, rfl, rfl, trivial⟩) (fun q9 hq9 => ?_)
  refine J_mono (w_aload_n C (jd jdt_Qu_addMeasure 44 rfl) rfl) ?_
  refine J_mono (w_dup_r C (jd jdt_Qu_addMeasure 45 rfl)) ?_
  refine J_mono (jg_Qu_28 C hp0 (jd jdt_Qu_addMeasure 46 rfl)) ?_
  refine J_mono (w_iconst_1 C (jd jdt_Qu_addMeasure 47 rfl)) ?_
  refine J_mono (w_iadd C (jd jdt_Qu_addMeasure 48 rfl)) ?_
  refine J_mono (jp_Qu_28 C F hp0 (jd jdt_Qu_addMeasure 49 rfl)) ?_
  exact J_some (fun hx => hR (sI q9 a0 3 ((q9.1 a0 3) + 1)) hx _ _ (jd jdt_Qu_addMeasure 50 rfl))
end
theorem C_Qu_addMeasure (l : Launch) (G : JG) (F : jF G = false) (a0 : Nat) (a1 : Int32) (hp0 : jkd a0 6) (M : SM) {q : SM} (hf : f_Qu_addMeasure a0 a1 M = some q) : jMet l jy_Qu_addMeasure jb_Qu_addMeasure 4 none 3 0 0 G [.ref a0, .int a1] jN0 (jce G M) none jN0 (jce G q) :=
  j_met jo_Qu_addMeasure (by decide) (Nat.le_of_ble_eq_true rfl) (fun p e s m args below meth c C hr hm => K_Qu_addMeasure C F (Nat.le_refl _) a0 a1 hp0 M (fun t => t = q) (fun M' hX pc ls hd => by cases hX; exact w_vret C hr hd) _ hf rfl)
def f_Qu_within (a0 : Int64) : Option Int32 := if 1000000 < a0 then (some 1000000) else (if a0 < (-1000000) then (some (-1000000)) else (some (Int64.toInt32 a0)))
section
variable {p : Program} {l : Launch} {e : Env} {R : Room} {s : State} {m : MethodId} {args : Array Value} {below : List Frame} {meth : Method} {c : Code} {G : JG} {D : Nat} {Q : State → Prop}
set_option maxHeartbeats 4000000 in
set_option maxRecDepth 20000 in
theorem K_Qu_within (C : jCx p R s m args meth c G jb_Qu_within 2 D "SluicePit$Question") (F : jF G = false) (hD : 1 ≤ D) (a0 : Int64)  (M : SM) (X : Int32 → Prop) (hR : ∀ v, X v → ∀ (pc : Nat) (ls : List (Option Value)), decode jb_Qu_within pc = .ok (.ireturn, 1) → narrow FieldType.int (.int v) = .int v → Wk p l e R s m args below meth c G 2 Q 0 0 jN0 (jce G M) pc ls [.int v]) : J X (f_Qu_within a0) (Wk p l e R s m args below meth c G 2 Q 0 0 jN0 (jce G M) 0 [some (.long a0), none] []) := by
  unfold f_Qu_within
  refine J_mono (w_lload_n C (jd jdt_Qu_within 0 rfl) rfl) ?_
  refine J_mono (w_ldc2 C (jd jdt_Qu_within 1 rfl) jw_1106) ?_
  refine J_br (w_lcmp_le C (jd jdt_Qu_within 2 rfl) (jd jdt_Qu_within 3 rfl) rfl) (fun h1 => J_pos h1 ?_) (fun h1 => J_neg h1 ?_)
  · refine J_mono (w_ldc C (jd jdt_Qu_within 4 rfl) jw_1107) ?_
    exact J_some (fun hx => hR 1000000 hx _ _ (jd jdt_Qu_within 5 rfl) rfl)
  · refine J_mono (w_lload_n C (jd jdt_Qu_within 6 rfl) rfl) ?_
    refine J_mono (w_ldc2 C (jd jdt_Qu_within 7 rfl) jw_1108) ?_
    refine J_br (w_lcmp_ge C (jd jdt_Qu_within 8 rfl) (jd jdt_Qu_within 9 rfl) rfl) (fun h2 => J_pos h2 ?_) (fun h2 => J_neg h2 ?_)
    · refine J_mono (w_ldc C (jd jdt_Qu_within 10 rfl) jw_1109) ?_
      refine J_mono (w_goto C (jd jdt_Qu_within 11 rfl) rfl) ?_
      exact J_some (fun hx => hR (-1000000) hx _ _ (jd jdt_Qu_within 14 rfl) rfl)
    · refine J_mono (w_lload_n C (jd jdt_Qu_within 12 rfl) rfl) ?_
      refine J_mono (w_l2i C (jd jdt_Qu_within 13 rfl)) ?_
      exact J_some (fun hx => hR (Int64.toInt32 a0) hx _ _ (jd jdt_Qu_within 14 rfl) rfl)
end
theorem C_Qu_within (l : Launch) (G : JG) (F : jF G = false) (a0 : Int64)  (M : SM) {q : Int32} (hf : f_Qu_within a0 = some q) : jMet l jy_Qu_within jb_Qu_within 2 (some FieldType.int) 1 0 0 G [.long a0] jN0 (jce G M) (some (.int q)) jN0 (jce G M) :=
  j_met jo_Qu_within (by decide) (Nat.le_of_ble_eq_true rfl) (fun p e s m args below meth c C hr hm => K_Qu_within C F (Nat.le_refl _) a0  M (fun t => t = q) (fun v hX pc ls hd hn => by cases hX; exact w_iret C hr hn hd) _ hf rfl)
def f_JM_floorDiv (a0 : Int32) (a1 : Int32) : Option Int32 := if a1 = 0 then none else (if (a0 ^^^ a1) < 0 then (if ((a0 / a1) * a1) = a0 then (some (a0 / a1)) else (some ((a0 / a1) - 1))) else (some (a0 / a1)))
section
variable {p : Program} {l : Launch} {e : Env} {R : Room} {s : State} {m : MethodId} {args : Array Value} {below : List Frame} {meth : Method} {c : Code} {G : JG} {D : Nat} {Q : State → Prop}
set_option maxHeartbeats 4000000 in
set_option maxRecDepth 20000 in
theorem K_JM_floorDiv (C : jCx p R s m args meth c G jb_JM_floorDiv 3 D "java/lang/Math") (F : jF G = false) (hD : 1 ≤ D) (a0 : Int32) (a1 : Int32)  (M : SM) (X : Int32 → Prop) (hR : ∀ v, X v → ∀ (pc : Nat) (ls : List (Option Value)), decode jb_JM_floorDiv pc = .ok (.ireturn, 1) → narrow FieldType.int (.int v) = .int v → Wk p l e R s m args below meth c G 3 Q 0 0 jN0 (jce G M) pc ls [.int v]) : J X (f_JM_floorDiv a0 a1) (Wk p l e R s m args below meth c G 3 Q 0 0 jN0 (jce G M) 0 [some (.int a0), some (.int a1), none] []) := by
  unfold f_JM_floorDiv
  refine J_mono (w_iload_n C (jd jdt_JM_floorDiv 0 rfl) rfl) ?_
  refine J_mono (w_iload_n C (jd jdt_JM_floorDiv 1 rfl) rfl) ?_
  refine J_div (fun h3 => ?_)
  refine J_mono (w_idiv C (jd jdt_JM_floorDiv 2 rfl) h3) ?_
  refine J_mono (w_istore_n (ls' := [some (.int a0), some (.int a1), some (.int (a0 / a1))]) C (jd jdt_JM_floorDiv 3 rfl) (by decide) rfl rfl) ?_
  refine J_mono (w_iload_n C (jd jdt_JM_floorDiv 4 rfl) rfl) ?_
  refine J_mono (w_iload_n C (jd jdt_JM_floorDiv 5 rfl) rfl) ?_
  refine J_mono (w_ixor C (jd jdt_JM_floorDiv 6 rfl)) ?_
  refine J_br (w_if_ge (y := 0) C (jd jdt_JM_floorDiv 7 rfl) rfl) (fun h1 => J_pos h1 ?_) (fun h1 => J_neg h1 ?_)
  · refine J_mono (w_iload_n C (jd jdt_JM_floorDiv 8 rfl) rfl) ?_
    refine J_mono (w_iload_n C (jd jdt_JM_floorDiv 9 rfl) rfl) ?_
    refine J_mono (w_imul C (jd jdt_JM_floorDiv 10 rfl)) ?_
    refine J_mono (w_iload_n C (jd jdt_JM_floorDiv 11 rfl) rfl) ?_
    refine J_br (w_icmp_eq C (jd jdt_JM_floorDiv 12 rfl) rfl) (fun h2 => J_pos h2 ?_) (fun h2 => J_neg h2 ?_)
    · refine J_mono (w_iload_n C (jd jdt_JM_floorDiv 17 rfl) rfl) ?_
      exact J_some (fun hx => hR (a0 / a1) hx _ _ (jd jdt_JM_floorDiv 18 rfl) rfl)
    · refine J_mono (w_iload_n C (jd jdt_JM_floorDiv 13 rfl) rfl) ?_
      refine J_mono (w_iconst_1 C (jd jdt_JM_floorDiv 14 rfl)) ?_
      refine J_mono (w_isub C (jd jdt_JM_floorDiv 15 rfl)) ?_
      exact J_some (fun hx => hR ((a0 / a1) - 1) hx _ _ (jd jdt_JM_floorDiv 16 rfl) rfl)
  · refine J_mono (w_iload_n C (jd jdt_JM_floorDiv 17 rfl) rfl) ?_
    exact J_some (fun hx => hR (a0 / a1) hx _ _ (jd jdt_JM_floorDiv 18 rfl) rfl)
end
theorem C_JM_floorDiv (l : Launch) (G : JG) (F : jF G = false) (a0 : Int32) (a1 : Int32)  (M : SM) {q : Int32} (hf : f_JM_floorDiv a0 a1 = some q) : jMet l jy_JM_floorDiv jb_JM_floorDiv 3 (some FieldType.int) 1 0 0 G [.int a0, .int a1] jN0 (jce G M) (some (.int q)) jN0 (jce G M) :=
  j_met jo_JM_floorDiv (by decide) (Nat.le_of_ble_eq_true rfl) (fun p e s m args below meth c C hr hm => K_JM_floorDiv C F (Nat.le_refl _) a0 a1  M (fun t => t = q) (fun v hX pc ls hd hn => by cases hX; exact w_iret C hr hn hd) _ hf rfl)
def f_Qu_joined (a0 : Int32) (a1 : Int32) (a2 : Int32) : Option Int32 := if a0 = 38 then (if a1 = 0 then (some 0) else (if a2 = 0 then (some 0) else (some 1))) else (if a0 = 42 then ((f_Qu_within (a1.toInt64 * a2.toInt64)).bind fun q5 => some q5) else (if a0 = 43 then ((f_Qu_within (a1.toInt64 + a2.toInt64)).bind fun q7 => some q7) else (if a0 = 45 then ((f_Qu_within (a1.toInt64 - a2.toInt64)).bind fun q9 => some q9) else (if a0 = 47 then (if a2 = 0 then (some 0) else ((f_JM_floorDiv a1 a2).bind fun q12 => some q12)) else (if a0 = 60 then (if a1 < a2 then (some 1) else (some 0)) else (if a0 = 61 then (if a1 = a2 then (some 1) else (some 0)) else (if a0 = 62 then (if a2 < a1 then (some 1) else (some 0)) else (if a0 = 109 then (some (jmin a1 a2)) else (if a0 = 124 then (if a1 = 0 then (if a2 = 0 then (some 0) else (some 1)) else (some 1)) else (some (jmax a1 a2)))))))))))
section
variable {p : Program} {l : Launch} {e : Env} {R : Room} {s : State} {m : MethodId} {args : Array Value} {below : List Frame} {meth : Method} {c : Code} {G : JG} {D : Nat} {Q : State → Prop}
set_option maxHeartbeats 4000000 in
set_option maxRecDepth 20000 in
theorem K_Qu_joined (C : jCx p R s m args meth c G jb_Qu_joined 3 D "SluicePit$Question") (F : jF G = false) (hD : 7 ≤ D) (a0 : Int32) (a1 : Int32) (a2 : Int32)  (M : SM) (X : Int32 → Prop) (hR : ∀ v, X v → ∀ (pc : Nat) (ls : List (Option Value)), decode jb_Qu_joined pc = .ok (.ireturn, 1) → narrow FieldType.int (.int v) = .int v → Wk p l e R s m args below meth c G 3 Q 0 0 jN0 (jce G M) pc ls [.int v]) : J X (f_Qu_joined a0 a1 a2) (Wk p l e R s m args below meth c G 3 Q 0 0 jN0 (jce G M) 0 [some (.int a0), some (.int a1), some (.int a2)] []) := by
  unfold f_Qu_joined
  refine J_mono (w_iload_n C (jd jdt_Qu_joined 0 rfl) rfl) ?_
  refine J_ite (fun h1 => ?_) (fun h1 => ?_)
  · refine J_mono (w_lswh h1 C (jd jdt_Qu_joined 1 rfl) rfl rfl rfl) ?_
    refine J_mono (w_iload_n C (jd jdt_Qu_joined 10 rfl) rfl) ?_
    refine J_br (w_if_eq (y := 0) C (jd jdt_Qu_joined 11 rfl) rfl) (fun h2 => J_pos h2 ?_) (fun h2 => J_neg h2 ?_)
    · refine J_mono (w_iconst_0 C (jd jdt_Qu_joined 16 rfl)) ?_
      exact J_some (fun hx => hR 0 hx _ _ (jd jdt_Qu_joined 17 rfl) rfl)
    · refine J_mono (w_iload_n C (jd jdt_Qu_joined 12 rfl) rfl) ?_
      refine J_br (w_if_eq (y := 0) C (jd jdt_Qu_joined 13 rfl) rfl) (fun h3 => J_pos h3 ?_) (fun h3 => J_neg h3 ?_)
      · refine J_mono (w_iconst_0 C (jd jdt_Qu_joined 16 rfl)) ?_
        exact J_some (fun hx => hR 0 hx _ _ (jd jdt_Qu_joined 17 rfl) rfl)
      · refine J_mono (w_iconst_1 C (jd jdt_Qu_joined 14 rfl)) ?_
        refine J_mono (w_goto C (jd jdt_Qu_joined 15 rfl) rfl) ?_
        exact J_some (fun hx => hR 1 hx _ _ (jd jdt_Qu_joined 17 rfl) rfl)
  · refine J_ite (fun h4 => ?_) (fun h4 => ?_)
    · refine J_mono (w_lswh h4 C (jd jdt_Qu_joined 1 rfl) rfl rfl rfl) ?_
      refine J_mono (w_iload_n C (jd jdt_Qu_joined 53 rfl) rfl) ?_
      refine J_mono (w_i2l C (jd jdt_Qu_joined 54 rfl)) ?_
      refine J_mono (w_iload_n C (jd jdt_Qu_joined 55 rfl) rfl) ?_
      refine J_mono (w_i2l C (jd jdt_Qu_joined 56 rfl)) ?_
      refine J_mono (w_lmul C (jd jdt_Qu_joined 57 rfl)) ?_
      refine J_bind (fun q5 hq5 => ?_)
      refine J_mono (jc_Qu_211 C (C_Qu_within l G F (a1.toInt64 * a2.toInt64) M hq5) rfl (Nat.le_trans (Nat.le_of_ble_eq_true rfl : 1 + 1 ≤ 7) hD) (jd jdt_Qu_joined 58 rfl)) ?_
      exact J_some (fun hx => hR q5 hx _ _ (jd jdt_Qu_joined 59 rfl) rfl)
    · refine J_ite (fun h6 => ?_) (fun h6 => ?_)
      · refine J_mono (w_lswh h6 C (jd jdt_Qu_joined 1 rfl) rfl rfl rfl) ?_
        refine J_mono (w_iload_n C (jd jdt_Qu_joined 39 rfl) rfl) ?_
        refine J_mono (w_i2l C (jd jdt_Qu_joined 40 rfl)) ?_
        refine J_mono (w_iload_n C (jd jdt_Qu_joined 41 rfl) rfl) ?_
        refine J_mono (w_i2l C (jd jdt_Qu_joined 42 rfl)) ?_
        refine J_mono (w_ladd C (jd jdt_Qu_joined 43 rfl)) ?_
        refine J_bind (fun q7 hq7 => ?_)
        refine J_mono (jc_Qu_211 C (C_Qu_within l G F (a1.toInt64 + a2.toInt64) M hq7) rfl (Nat.le_trans (Nat.le_of_ble_eq_true rfl : 1 + 1 ≤ 7) hD) (jd jdt_Qu_joined 44 rfl)) ?_
        exact J_some (fun hx => hR q7 hx _ _ (jd jdt_Qu_joined 45 rfl) rfl)
      · refine J_ite (fun h8 => ?_) (fun h8 => ?_)
        · refine J_mono (w_lswh h8 C (jd jdt_Qu_joined 1 rfl) rfl rfl rfl) ?_
          refine J_mono (w_iload_n C (jd jdt_Qu_joined 46 rfl) rfl) ?_
          refine J_mono (w_i2l C (jd jdt_Qu_joined 47 rfl)) ?_
          refine J_mono (w_iload_n C (jd jdt_Qu_joined 48 rfl) rfl) ?_
          refine J_mono (w_i2l C (jd jdt_Qu_joined 49 rfl)) ?_
          refine J_mono (w_lsub C (jd jdt_Qu_joined 50 rfl)) ?_
          refine J_bind (fun q9 hq9 => ?_)
          refine J_mono (jc_Qu_211 C (C_Qu_within l G F (a1.toInt64 - a2.toInt64) M hq9) rfl (Nat.le_trans (Nat.le_of_ble_eq_true rfl : 1 + 1 ≤ 7) hD) (jd jdt_Qu_joined 51 rfl)) ?_
          exact J_some (fun hx => hR q9 hx _ _ (jd jdt_Qu_joined 52 rfl) rfl)
        · refine J_ite (fun h10 => ?_) (fun h10 => ?_)
          · refine J_mono (w_lswh h10 C (jd jdt_Qu_joined 1 rfl) rfl rfl rfl) ?_
            refine J_mono (w_iload_n C (jd jdt_Qu_joined 60 rfl) rfl) ?_
            refine J_br (w_if_ne (y := 0) C (jd jdt_Qu_joined 61 rfl) rfl) (fun h11 => J_pos h11 ?_) (fun h11 => J_neg h11 ?_)
            · refine J_mono (w_iconst_0 C (jd jdt_Qu_joined 62 rfl)) ?_
              refine J_mono (w_goto C (jd jdt_Qu_joined 63 rfl) rfl) ?_
              exact J_some (fun hx => hR 0 hx _ _ (jd jdt_Qu_joined 67 rfl) rfl)
            · refine J_mono (w_iload_n C (jd jdt_Qu_joined 64 rfl) rfl) ?_
              refine J_mono (w_iload_n C (jd jdt_Qu_joined 65 rfl) rfl) ?_
              refine J_bind (fun q12 hq12 => ?_)
              refine J_mono (jc_Qu_215 C (C_JM_floorDiv l G F a1 a2 M hq12) rfl (Nat.le_trans (Nat.le_of_ble_eq_true rfl : 1 + 1 ≤ 7) hD) (jd jdt_Qu_joined 66 rfl)) ?_
              exact J_some (fun hx => hR q12 hx _ _ (jd jdt_Qu_joined 67 rfl) rfl)
          · refine J_ite (fun h13 => ?_) (fun h13 => ?_)
            · refine J_mono (w_lswh h13 C (jd jdt_Qu_joined 1 rfl) rfl rfl rfl) ?_
              refine J_mono (w_iload_n C (jd jdt_Qu_joined 18 rfl) rfl) ?_
              refine J_mono (w_iload_n C (jd jdt_Qu_joined 19 rfl) rfl) ?_
              refine J_br (w_icmp_ge C (jd jdt_Qu_joined 20 rfl) rfl) (fun h14 => J_pos h14 ?_) (fun h14 => J_neg h14 ?_)
              · refine J_mono (w_iconst_1 C (jd jdt_Qu_joined 21 rfl)) ?_
                refine J_mono (w_goto C (jd jdt_Qu_joined 22 rfl) rfl) ?_
                exact J_some (fun hx => hR 1 hx _ _ (jd jdt_Qu_joined 24 rfl) rfl)
              · refine J_mono (w_iconst_0 C (jd jdt_Qu_joined 23 rfl)) ?_
                exact J_some (fun hx => hR 0 hx _ _ (jd jdt_Qu_joined 24 rfl) rfl)
            · refine J_ite (fun h15 => ?_) (fun h15 => ?_)
              · refine J_mono (w_lswh h15 C (jd jdt_Qu_joined 1 rfl) rfl rfl rfl) ?_
                refine J_mono (w_iload_n C (jd jdt_Qu_joined 32 rfl) rfl) ?_
                refine J_mono (w_iload_n C (jd jdt_Qu_joined 33 rfl) rfl) ?_
                refine J_br (w_icmp_ne C (jd jdt_Qu_joined 34 rfl) rfl) (fun h16 => J_pos h16 ?_) (fun h16 => J_neg h16 ?_)
                · refine J_mono (w_iconst_1 C (jd jdt_Qu_joined 35 rfl)) ?_
                  refine J_mono (w_goto C (jd jdt_Qu_joined 36 rfl) rfl) ?_
                  exact J_some (fun hx => hR 1 hx _ _ (jd jdt_Qu_joined 38 rfl) rfl)
                · refine J_mono (w_iconst_0 C (jd jdt_Qu_joined 37 rfl)) ?_
                  exact J_some (fun hx => hR 0 hx _ _ (jd jdt_Qu_joined 38 rfl) rfl)
              · refine J_ite (fun h17 => ?_) (fun h17 => ?_)
                · refine J_mono (w_lswh h17 C (jd jdt_Qu_joined 1 rfl) rfl rfl rfl) ?_
                  refine J_mono (w_iload_n C (jd jdt_Qu_joined 25 rfl) rfl) ?_
                  refine J_mono (w_iload_n C (jd jdt_Qu_joined 26 rfl) rfl) ?_
                  refine J_br (w_icmp_le C (jd jdt_Qu_joined 27 rfl) rfl) (fun h18 => J_pos h18 ?_) (fun h18 => J_neg h18 ?_)
                  · refine J_mono (w_iconst_1 C (jd jdt_Qu_joined 28 rfl)) ?_
                    refine J_mono (w_goto C (jd jdt_Qu_joined 29 rfl) rfl) ?_
                    exact J_some (fun hx => hR 1 hx _ _ (jd jdt_Qu_joined 31 rfl) rfl)
                  · refine J_mono (w_iconst_0 C (jd jdt_Qu_joined 30 rfl)) ?_
                    exact J_some (fun hx => hR 0 hx _ _ (jd jdt_Qu_joined 31 rfl) rfl)
                · refine J_ite (fun h19 => ?_) (fun h19 => ?_)
                  · refine J_mono (w_lswh h19 C (jd jdt_Qu_joined 1 rfl) rfl rfl rfl) ?_
                    refine J_mono (w_iload_n C (jd jdt_Qu_joined 68 rfl) rfl) ?_
                    refine J_mono (w_iload_n C (jd jdt_Qu_joined 69 rfl) rfl) ?_
                    refine J_mono (w_mmin C (Nat.zero_le _) (Nat.zero_le _) (Nat.le_of_ble_eq_true rfl) jw_1113 (jd jdt_Qu_joined 70 rfl)) ?_
                    exact J_some (fun hx => hR (jmin a1 a2) hx _ _ (jd jdt_Qu_joined 71 rfl) rfl)
                  · refine J_ite (fun h20 => ?_) (fun h20 => ?_)
                    · refine J_mono (w_lswh h20 C (jd jdt_Qu_joined 1 rfl) rfl rfl rfl) ?_
                      refine J_mono (w_iload_n C (jd jdt_Qu_joined 2 rfl) rfl) ?_
                      refine J_br (w_if_ne (y := 0) C (jd jdt_Qu_joined 3 rfl) rfl) (fun h21 => J_pos h21 ?_) (fun h21 => J_neg h21 ?_)
                      · refine J_mono (w_iload_n C (jd jdt_Qu_joined 4 rfl) rfl) ?_
                        refine J_br (w_if_eq (y := 0) C (jd jdt_Qu_joined 5 rfl) rfl) (fun h22 => J_pos h22 ?_) (fun h22 => J_neg h22 ?_)
                        · refine J_mono (w_iconst_0 C (jd jdt_Qu_joined 8 rfl)) ?_
                          exact J_some (fun hx => hR 0 hx _ _ (jd jdt_Qu_joined 9 rfl) rfl)
                        · refine J_mono (w_iconst_1 C (jd jdt_Qu_joined 6 rfl)) ?_
                          refine J_mono (w_goto C (jd jdt_Qu_joined 7 rfl) rfl) ?_
                          exact J_some (fun hx => hR 1 hx _ _ (jd jdt_Qu_joined 9 rfl) rfl)
                      · refine J_mono (w_iconst_1 C (jd jdt_Qu_joined 6 rfl)) ?_
                        refine J_mono (w_goto C (jd jdt_Qu_joined 7 rfl) rfl) ?_
                        exact J_some (fun hx => hR 1 hx _ _ (jd jdt_Qu_joined 9 rfl) rfl)
                    · refine J_mono (w_lswd C (jd jdt_Qu_joined 1 rfl) rfl (by show Op.lookupswitch.offset [(38, 105), (42, 170), (43, 152), (45, 161), (47, 179), (60, 119), (61, 141), (62, 130), (109, 193), (124, 91)] 199 _ = _; simp only [Op.lookupswitch.offset_cons, Op.lookupswitch.offset_nil]; rw [if_neg (lsn (v := 38) h1), if_neg (lsn (v := 42) h4), if_neg (lsn (v := 43) h6), if_neg (lsn (v := 45) h8), if_neg (lsn (v := 47) h10), if_neg (lsn (v := 60) h13), if_neg (lsn (v := 61) h15), if_neg (lsn (v := 62) h17), if_neg (lsn (v := 109) h19), if_neg (lsn (v := 124) h20)]) rfl) ?_
                      refine J_mono (w_iload_n C (jd jdt_Qu_joined 72 rfl) rfl) ?_
                      refine J_mono (w_iload_n C (jd jdt_Qu_joined 73 rfl) rfl) ?_
                      refine J_mono (w_mmax C (Nat.zero_le _) (Nat.zero_le _) (Nat.le_of_ble_eq_true rfl) jw_1114 (jd jdt_Qu_joined 74 rfl)) ?_
                      exact J_some (fun hx => hR (jmax a1 a2) hx _ _ (jd jdt_Qu_joined 75 rfl) rfl)
end
theorem C_Qu_joined (l : Launch) (G : JG) (F : jF G = false) (a0 : Int32) (a1 : Int32) (a2 : Int32)  (M : SM) {q : Int32} (hf : f_Qu_joined a0 a1 a2 = some q) : jMet l jy_Qu_joined jb_Qu_joined 3 (some FieldType.int) 7 0 0 G [.int a0, .int a1, .int a2] jN0 (jce G M) (some (.int q)) jN0 (jce G M) :=
  j_met jo_Qu_joined (by decide) (Nat.le_of_ble_eq_true rfl) (fun p e s m args below meth c C hr hm => K_Qu_joined C F (Nat.le_refl _) a0 a1 a2  M (fun t => t = q) (fun v hX pc ls hd hn => by cases hX; exact w_iret C hr hn hd) _ hf rfl)
def lp_Qu_join_12 (y0 : Nat) (y1 : Int32) : Nat → Int32 → SM → Option (SM)
  | 0, _, _ => none
  | n + 1, x2, M => if 60 < x2 then (some M) else ((f_Sp_cellOf (jpf y0 2) ((M.1 y0 3) - 1) x2 M).bind fun q2 => (f_Sp_cellOf (jpf y0 2) (M.1 y0 3) x2 M).bind fun q3 => (f_Qu_joined y1 q2 q3).bind fun q4 => (f_Sp_putCell (jpf y0 2) ((M.1 y0 3) - 1) x2 q4 M).bind fun q5 => lp_Qu_join_12 y0 y1 n (x2 + 1) q5)
def f_Qu_join (a0 : Nat) (a1 : Int32) (M : SM) : Option SM := (lp_Qu_join_12 a0 a1 jfuel 0 (sI M a0 3 ((M.1 a0 3) - 1))).bind fun q6 => some q6
section
variable {p : Program} {l : Launch} {e : Env} {R : Room} {s : State} {m : MethodId} {args : Array Value} {below : List Frame} {meth : Method} {c : Code} {G : JG} {D : Nat} {Q : State → Prop}
set_option maxHeartbeats 4000000 in
set_option maxRecDepth 20000 in
theorem K_Qu_join (C : jCx p R s m args meth c G jb_Qu_join 4 D "SluicePit$Question") (F : jF G = false) (hD : 8 ≤ D) (a0 : Nat) (a1 : Int32) (hp0 : jkd a0 6) (M : SM) (X : SM → Prop) (hR : ∀ M', X M' → ∀ (pc : Nat) (ls : List (Option Value)), decode jb_Qu_join pc = .ok (.return_, 1) → Wk p l e R s m args below meth c G 4 Q 0 0 jN0 (jce G M') pc ls []) : J X (f_Qu_join a0 a1 M) (Wk p l e R s m args below meth c G 4 Q 0 0 jN0 (jce G M) 0 [some (.ref a0), some (.int a1), none, none] []) := by
  unfold f_Qu_join
  refine J_mono (w_aload_n C (jd jdt_Qu_join 0 rfl) rfl) ?_
  refine J_mono (w_dup_r C (jd jdt_Qu_join 1 rfl)) ?_
  refine J_mono (jg_Qu_28 C hp0 (jd jdt_Qu_join 2 rfl)) ?_
  refine J_mono (w_iconst_1 C (jd jdt_Qu_join 3 rfl)) ?_
  refine J_mono (w_isub C (jd jdt_Qu_join 4 rfl)) ?_
  refine J_mono (jp_Qu_28 C F hp0 (jd jdt_Qu_join 5 rfl)) ?_
  refine J_mono (w_iconst_0 C (jd jdt_Qu_join 6 rfl)) ?_
  refine J_mono (w_istore_n (ls' := [some (.ref a0), some (.int a1), some (.int 0), none]) C (jd jdt_Qu_join 7 rfl) (by decide) rfl rfl) ?_
  have L12 : ∀ (y0 : Nat) (y1 : Int32) (hy0 : jkd y0 6) (n : Nat) (x2 : Int32) (M : SM), J (fun (q6 : SM) => Wk p l e R s m args below meth c G 4 Q 0 0 jN0 (jce G q6) 70 [none, none, none, none] []) (lp_Qu_join_12 y0 y1 n x2 M) (Wk p l e R s m args below meth c G 4 Q 0 0 jN0 (jce G M) 12 [some (.ref y0), some (.int y1), some (.int x2), none] []) := by
    intro y0 y1 hy0 n
    induction n with
    | zero => intro x2 M; exact J_none
    | succ n ih =>
      intro x2 M
      unfold lp_Qu_join_12
      refine J_mono (w_iload_n C (jd jdt_Qu_join 8 rfl) rfl) ?_
      refine J_mono (w_bipush_60 C (jd jdt_Qu_join 9 rfl)) ?_
      refine J_br (w_icmp_gt C (jd jdt_Qu_join 10 rfl) rfl) (fun h1 => J_pos h1 ?_) (fun h1 => J_neg h1 ?_)
      · exact J_some (fun hx => Wk_sb hx trivial)
      · refine J_mono (w_iload_n C (jd jdt_Qu_join 11 rfl) rfl) ?_
        refine J_mono (w_aload_n C (jd jdt_Qu_join 12 rfl) rfl) ?_
        refine J_mono (jg_Qu_25 C hy0 (jd jdt_Qu_join 13 rfl)) ?_
        refine J_mono (w_aload_n C (jd jdt_Qu_join 14 rfl) rfl) ?_
        refine J_mono (jg_Qu_28 C hy0 (jd jdt_Qu_join 15 rfl)) ?_
        refine J_mono (w_iconst_1 C (jd jdt_Qu_join 16 rfl)) ?_
        refine J_mono (w_isub C (jd jdt_Qu_join 17 rfl)) ?_
        refine J_mono (w_iload_n C (jd jdt_Qu_join 18 rfl) rfl) ?_
        refine J_bind (fun q2 hq2 => ?_)
        refine J_mono (jc_Qu_66 C (C_Sp_cellOf l G F (jpf y0 2) ((M.1 y0 3) - 1) x2 (jkf_6_2 hy0) M hq2) rfl (Nat.le_trans (Nat.le_of_ble_eq_true rfl : 1 + 1 ≤ 8) hD) (jd jdt_Qu_join 19 rfl)) ?_
        refine J_mono (w_aload_n C (jd jdt_Qu_join 20 rfl) rfl) ?_
        refine J_mono (jg_Qu_25 C hy0 (jd jdt_Qu_join 21 rfl)) ?_
        refine J_mono (w_aload_n C (jd jdt_Qu_join 22 rfl) rfl) ?_
        refine J_mono (jg_Qu_28 C hy0 (jd jdt_Qu_join 23 rfl)) ?_
        refine J_mono (w_iload_n C (jd jdt_Qu_join 24 rfl) rfl) ?_
        refine J_bind (fun q3 hq3 => ?_)
        refine J_mono (jc_Qu_66 C (C_Sp_cellOf l G F (jpf y0 2) (M.1 y0 3) x2 (jkf_6_2 hy0) M hq3) rfl (Nat.le_trans (Nat.le_of_ble_eq_true rfl : 1 + 1 ≤ 8) hD) (jd jdt_Qu_join 25 rfl)) ?_
        refine J_bind (fun q4 hq4 => ?_)
        refine J_mono (jc_Qu_207 C (C_Qu_joined l G F y1 q2 q3 M hq4) rfl (Nat.le_trans (Nat.le_of_ble_eq_true rfl : 7 + 1 ≤ 8) hD) (jd jdt_Qu_join 26 rfl)) ?_
        refine J_mono (w_istore_n (ls' := [some (.ref y0), some (.int y1), some (.int x2), some (.int q4)]) C (jd jdt_Qu_join 27 rfl) (by decide) rfl rfl) ?_
        refine J_mono (w_aload_n C (jd jdt_Qu_join 28 rfl) rfl) ?_
        refine J_mono (jg_Qu_25 C hy0 (jd jdt_Qu_join 29 rfl)) ?_
        refine J_mono (w_aload_n C (jd jdt_Qu_join 30 rfl) rfl) ?_
        refine J_mono (jg_Qu_28 C hy0 (jd jdt_Qu_join 31 rfl)) ?_
        refine J_mono (w_iconst_1 C (jd jdt_Qu_join 32 rfl)) ?_
        refine J_mono (w_isub C (jd jdt_Qu_join 33 rfl)) ?_
        refine J_mono (w_iload_n C (jd jdt_Qu_join 34 rfl) rfl) ?_
        refine J_mono (w_iload_n C (jd jdt_Qu_join 35 rfl) rfl) ?_
        refine J_bind (fun q5 hq5 => ?_)
        refine J_mono (jc_Qu_128 C (C_Sp_putCell l G F (jpf y0 2) ((M.1 y0 3) - 1) x2 q4 (jkf_6_2 hy0) M hq5) rfl (Nat.le_trans (Nat.le_of_ble_eq_true rfl : 1 + 1 ≤ 8) hD) (jd jdt_Qu_join 36 rfl)) ?_
        refine J_mono (w_iinc (v := x2 + 1) (ls' := [some (.ref y0), some (.int y1), some (.int (x2 + 1)), some (.int q4)]) C (jd jdt_Qu_join 37 rfl) rfl rfl (by decide) rfl rfl) ?_
        refine J_mono (w_goto C (jd jdt_Qu_join 38 rfl) rfl) ?_
        exact J_sub (ih (x2 + 1) q5) ⟨rfl, rfl, rfl, trivial⟩
  refine J_seq (fun (q6 : SM) => Wk p l e R s m args below meth c G 4 Q 0 0 jN0 (jce G q6) 70 [none, none, none, none] []) (J_sub (L12 a0 a1 hp0 jfuel 0 (sI M a0 3 ((M.1 a0 3) - 1))) ⟨rfl, rfl, rfl, trivial⟩) (fun q6 hq6 => ?_)
  exact J_some (fun hx => hR q6 hx _ _ (jd jdt_Qu_join 39 rfl))
end
theorem C_Qu_join (l : Launch) (G : JG) (F : jF G = false) (a0 : Nat) (a1 : Int32) (hp0 : jkd a0 6) (M : SM) {q : SM} (hf : f_Qu_join a0 a1 M = some q) : jMet l jy_Qu_join jb_Qu_join 4 none 8 0 0 G [.ref a0, .int a1] jN0 (jce G M) none jN0 (jce G q) :=
  j_met jo_Qu_join (by decide) (Nat.le_of_ble_eq_true rfl) (fun p e s m args below meth c C hr hm => K_Qu_join C F (Nat.le_refl _) a0 a1 hp0 M (fun t => t = q) (fun M' hX pc ls hd => by cases hX; exact w_vret C hr hd) _ hf rfl)
def lp_Qu_signAmong_2 (y0 : Nat) (y1 : Nat) (M : SM) : Nat → Int32 → Option ((Unit) ⊕ Int32)
  | 0, _ => none
  | n + 1, x2 => if x2 < (jsln y1) then ((jsch y1 x2).bind fun v2 => (f_Re_isSign (jpf y0 0) v2 M).bind fun q3 => if q3 = 0 then (lp_Qu_signAmong_2 y0 y1 M n (x2 + 1)) else ((jsch y1 x2).bind fun v5 => (cchk v5).bind fun b6 => some (.inr b6))) else (some (.inl ()))
def f_Qu_signAmong (a0 : Nat) (a1 : Nat) (M : SM) : Option Int32 := jsb (lp_Qu_signAmong_2 a0 a1 M jfuel 0) id fun q7 => some 32
section
variable {p : Program} {l : Launch} {e : Env} {R : Room} {s : State} {m : MethodId} {args : Array Value} {below : List Frame} {meth : Method} {c : Code} {G : JG} {D : Nat} {Q : State → Prop}
set_option maxHeartbeats 4000000 in
set_option maxRecDepth 20000 in
theorem K_Qu_signAmong (C : jCx p R s m args meth c G jb_Qu_signAmong 3 D "SluicePit$Question") (F : jF G = false) (hD : 7 ≤ D) (a0 : Nat) (a1 : Nat) (hp0 : jkd a0 6) (hp1 : jks a1) (M : SM) (X : Int32 → Prop) (hR : ∀ v, X v → ∀ (pc : Nat) (ls : List (Option Value)), decode jb_Qu_signAmong pc = .ok (.ireturn, 1) → narrow FieldType.char (.int v) = .int v → Wk p l e R s m args below meth c G 3 Q 0 0 jN0 (jce G M) pc ls [.int v]) : J X (f_Qu_signAmong a0 a1 M) (Wk p l e R s m args below meth c G 3 Q 0 0 jN0 (jce G M) 0 [some (.ref a0), some (.ref a1), none] []) := by
  unfold f_Qu_signAmong
  refine J_mono (w_iconst_0 C (jd jdt_Qu_signAmong 0 rfl)) ?_
  refine J_mono (w_istore_n (ls' := [some (.ref a0), some (.ref a1), some (.int 0)]) C (jd jdt_Qu_signAmong 1 rfl) (by decide) rfl rfl) ?_
  have L2 : ∀ (y0 : Nat) (y1 : Nat) (hy0 : jkd y0 6) (hy1 : jks y1) (n : Nat) (x2 : Int32), J (Sum.elim (fun (q7 : Unit) => Wk p l e R s m args below meth c G 3 Q 0 0 jN0 (jce G M) 37 [none, none, none] []) X) (lp_Qu_signAmong_2 y0 y1 M n x2) (Wk p l e R s m args below meth c G 3 Q 0 0 jN0 (jce G M) 2 [some (.ref y0), some (.ref y1), some (.int x2)] []) := by
    intro y0 y1 hy0 hy1 n
    induction n with
    | zero => intro x2; exact J_none
    | succ n ih =>
      intro x2
      unfold lp_Qu_signAmong_2
      refine J_mono (w_iload_n C (jd jdt_Qu_signAmong 2 rfl) rfl) ?_
      refine J_mono (w_aload_n C (jd jdt_Qu_signAmong 3 rfl) rfl) ?_
      refine J_mono (jc_Qu_138 C hy1 rfl (Nat.le_trans (Nat.le_of_ble_eq_true rfl : 2 + 1 ≤ 7) hD) (jd jdt_Qu_signAmong 4 rfl)) ?_
      refine J_br (w_icmp_ge C (jd jdt_Qu_signAmong 5 rfl) rfl) (fun h1 => J_pos h1 ?_) (fun h1 => J_neg h1 ?_)
      · refine J_mono (w_aload_n C (jd jdt_Qu_signAmong 6 rfl) rfl) ?_
        refine J_mono (jg_Qu_9 C hy0 (jd jdt_Qu_signAmong 7 rfl)) ?_
        refine J_mono (w_aload_n C (jd jdt_Qu_signAmong 8 rfl) rfl) ?_
        refine J_mono (w_iload_n C (jd jdt_Qu_signAmong 9 rfl) rfl) ?_
        refine J_bind (fun v2 hv2 => ?_)
        refine J_mono (jc_Qu_144 C hy1 hv2 rfl (Nat.le_trans (Nat.le_of_ble_eq_true rfl : 4 + 1 ≤ 7) hD) (jd jdt_Qu_signAmong 10 rfl)) ?_
        refine J_bind (fun q3 hq3 => ?_)
        refine J_mono (jc_Qu_112 C (jkf_6_0 hy0) (C_Re_isSign l G F (jpf y0 0) v2 (jkf_6_0 hy0) M hq3) rfl (Nat.le_trans (Nat.le_of_ble_eq_true rfl : 2 + 1 ≤ 7) hD) (jd jdt_Qu_signAmong 11 rfl)) ?_
        refine J_br (w_if_eq (y := 0) C (jd jdt_Qu_signAmong 12 rfl) rfl) (fun h4 => J_pos h4 ?_) (fun h4 => J_neg h4 ?_)
        · refine J_mono (w_iinc (v := x2 + 1) (ls' := [some (.ref y0), some (.ref y1), some (.int (x2 + 1))]) C (jd jdt_Qu_signAmong 17 rfl) rfl rfl (by decide) rfl rfl) ?_
          refine J_mono (w_goto C (jd jdt_Qu_signAmong 18 rfl) rfl) ?_
          exact J_sub (ih (x2 + 1)) ⟨rfl, rfl, rfl, trivial⟩
        · refine J_mono (w_aload_n C (jd jdt_Qu_signAmong 13 rfl) rfl) ?_
          refine J_mono (w_iload_n C (jd jdt_Qu_signAmong 14 rfl) rfl) ?_
          refine J_bind (fun v5 hv5 => ?_)
          refine J_mono (jc_Qu_144 C hy1 hv5 rfl (Nat.le_trans (Nat.le_of_ble_eq_true rfl : 4 + 1 ≤ 7) hD) (jd jdt_Qu_signAmong 15 rfl)) ?_
          refine J_bind (fun b6 hb6 => ?_)
          obtain rfl := cchk_e hb6
          exact J_some (fun hx => hR _ hx _ _ (jd jdt_Qu_signAmong 16 rfl) (cchk_n hb6))
      · exact J_some (fun hx => Wk_sb hx trivial)
  refine J_sb (fun (q7 : Unit) => Wk p l e R s m args below meth c G 3 Q 0 0 jN0 (jce G M) 37 [none, none, none] []) (J_sub (L2 a0 a1 hp0 hp1 jfuel 0) ⟨rfl, rfl, rfl, trivial⟩) (fun q7 => ?_)
  refine J_mono (w_bipush_32 C (jd jdt_Qu_signAmong 19 rfl)) ?_
  exact J_some (fun hx => hR 32 hx _ _ (jd jdt_Qu_signAmong 20 rfl) rfl)
end
theorem C_Qu_signAmong (l : Launch) (G : JG) (F : jF G = false) (a0 : Nat) (a1 : Nat) (hp0 : jkd a0 6) (hp1 : jks a1) (M : SM) {q : Int32} (hf : f_Qu_signAmong a0 a1 M = some q) : jMet l jy_Qu_signAmong jb_Qu_signAmong 3 (some FieldType.char) 7 0 0 G [.ref a0, .ref a1] jN0 (jce G M) (some (.int q)) jN0 (jce G M) :=
  j_met jo_Qu_signAmong (by decide) (Nat.le_of_ble_eq_true rfl) (fun p e s m args below meth c C hr hm => K_Qu_signAmong C F (Nat.le_refl _) a0 a1 hp0 hp1 M (fun t => t = q) (fun v hX pc ls hd hn => by cases hX; exact w_iret C hr hn hd) _ hf rfl)
def lp_Qu_sum_12 (gf : (Nat → Int32 → SM → Option (Int32 × SM)) × (Nat → Int32 → SM → Option (Int32 × SM)) × (Nat → Int32 → SM → Option (Int32 × SM)) × (Nat → Int32 → Int32 → SM → Option (Int32 × SM)) × (Nat → Int32 → Int32 → SM → Option (Int32 × SM))) (y0 : Nat) (y1 : Int32) : Nat → Int32 → SM → Option ((SM) ⊕ (Int32 × SM))
  | 0, _, _ => none
  | n + 1, x2, M => if x2 < 1600 then ((f_Qu_signAmong y0 1016 M).bind fun q4 => if q4 = 32 then (some (.inl M)) else ((f_Qu_signAmong y0 1016 M).bind fun q6 => (f_Re_step (jpf y0 0) M).bind fun q7 => (gf.2.1 y0 y1 q7).bind fun q8 => if q8.1 = 0 then (some (.inr (0, q8.2))) else ((f_Qu_join y0 q6 q8.2).bind fun q10 => lp_Qu_sum_12 gf y0 y1 n (x2 + 1) q10))) else (some (.inl M))
def fb_Qu_sum (gf : (Nat → Int32 → SM → Option (Int32 × SM)) × (Nat → Int32 → SM → Option (Int32 × SM)) × (Nat → Int32 → SM → Option (Int32 × SM)) × (Nat → Int32 → Int32 → SM → Option (Int32 × SM)) × (Nat → Int32 → Int32 → SM → Option (Int32 × SM))) (a0 : Nat) (a1 : Int32) (M : SM) : Option (Int32 × SM) := (gf.2.1 a0 a1 M).bind fun q1 => if q1.1 = 0 then (some (0, q1.2)) else (jsb (lp_Qu_sum_12 gf a0 a1 jfuel 0 q1.2) id fun q11 => some (1, q11))
section
variable {p : Program} {l : Launch} {e : Env} {R : Room} {s : State} {m : MethodId} {args : Array Value} {below : List Frame} {meth : Method} {c : Code} {G : JG} {D : Nat} {Q : State → Prop}
set_option maxHeartbeats 4000000 in
set_option maxRecDepth 20000 in
theorem K_Qu_sum (gf : (Nat → Int32 → SM → Option (Int32 × SM)) × (Nat → Int32 → SM → Option (Int32 × SM)) × (Nat → Int32 → SM → Option (Int32 × SM)) × (Nat → Int32 → Int32 → SM → Option (Int32 × SM)) × (Nat → Int32 → Int32 → SM → Option (Int32 × SM))) (C : jCx p R s m args meth c G jb_Qu_sum 4 D "SluicePit$Question") (F : jF G = false) {n : Nat} (gh : (∀ (a0 : Nat) (a1 : Int32) (hp0 : jkd a0 6) (M : SM) (q : (Int32 × SM)), (gf.1 a0 a1 M) = some q → jMet l jy_Qu_sum jb_Qu_sum 4 (some FieldType.boolean) (9 + n) 0 0 G [.ref a0, .int a1] jN0 (jce G M) (some (.int q.1)) jN0 (jce G q.2)) ∧ (∀ (a0 : Nat) (a1 : Int32) (hp0 : jkd a0 6) (M : SM) (q : (Int32 × SM)), (gf.2.1 a0 a1 M) = some q → jMet l jy_Qu_product jb_Qu_product 4 (some FieldType.boolean) (9 + n) 0 0 G [.ref a0, .int a1] jN0 (jce G M) (some (.int q.1)) jN0 (jce G q.2)) ∧ (∀ (a0 : Nat) (a1 : Int32) (hp0 : jkd a0 6) (M : SM) (q : (Int32 × SM)), (gf.2.2.1 a0 a1 M) = some q → jMet l jy_Qu_part jb_Qu_part 3 (some FieldType.boolean) (9 + n) 0 0 G [.ref a0, .int a1] jN0 (jce G M) (some (.int q.1)) jN0 (jce G q.2)) ∧ (∀ (a0 : Nat) (a1 : Int32) (a2 : Int32) (hp0 : jkd a0 6) (M : SM) (q : (Int32 × SM)), (gf.2.2.2.1 a0 a1 a2 M) = some q → jMet l jy_Qu_bracket jb_Qu_bracket 3 (some FieldType.boolean) (9 + n) 0 0 G [.ref a0, .int a1, .int a2] jN0 (jce G M) (some (.int q.1)) jN0 (jce G q.2)) ∧ (∀ (a0 : Nat) (a1 : Int32) (a2 : Int32) (hp0 : jkd a0 6) (M : SM) (q : (Int32 × SM)), (gf.2.2.2.2 a0 a1 a2 M) = some q → jMet l jy_Qu_lookUp jb_Qu_lookUp 5 (some FieldType.boolean) (9 + n) 0 0 G [.ref a0, .int a1, .int a2] jN0 (jce G M) (some (.int q.1)) jN0 (jce G q.2))) (hD : 9 + n + 1 ≤ D) (a0 : Nat) (a1 : Int32) (hp0 : jkd a0 6) (M : SM) (X : (Int32 × SM) → Prop) (hR : ∀ v M', X (v, M') → ∀ (pc : Nat) (ls : List (Option Value)), decode jb_Qu_sum pc = .ok (.ireturn, 1) → narrow FieldType.boolean (.int v) = .int v → Wk p l e R s m args below meth c G 4 Q 0 0 jN0 (jce G M') pc ls [.int v]) : J X (fb_Qu_sum gf a0 a1 M) (Wk p l e R s m args below meth c G 4 Q 0 0 jN0 (jce G M) 0 [some (.ref a0), some (.int a1), none, none] []) := by
  unfold fb_Qu_sum
  refine J_mono (w_aload_n C (jd jdt_Qu_sum 0 rfl) rfl) ?_
  refine J_mono (w_iload_n C (jd jdt_Qu_sum 1 rfl) rfl) ?_
  refine J_bind (fun q1 hq1 => ?_)
  refine J_mono (jc_Qu_148 C hp0 (gh.2.1 a0 a1 hp0 M _ hq1) rfl (by omega) (jd jdt_Qu_sum 2 rfl)) ?_
  refine J_br (w_if_ne (y := 0) C (jd jdt_Qu_sum 3 rfl) rfl) (fun h2 => J_pos h2 ?_) (fun h2 => J_neg h2 ?_)
  · refine J_mono (w_iconst_0 C (jd jdt_Qu_sum 4 rfl)) ?_
    exact J_some (fun hx => hR 0 q1.2 hx _ _ (jd jdt_Qu_sum 5 rfl) rfl)
  · refine J_mono (w_iconst_0 C (jd jdt_Qu_sum 6 rfl)) ?_
    refine J_mono (w_istore_n (ls' := [some (.ref a0), some (.int a1), some (.int 0), none]) C (jd jdt_Qu_sum 7 rfl) (by decide) rfl rfl) ?_
    have L12 : ∀ (y0 : Nat) (y1 : Int32) (hy0 : jkd y0 6) (n : Nat) (x2 : Int32) (M : SM), J (Sum.elim (fun (q11 : SM) => Wk p l e R s m args below meth c G 4 Q 0 0 jN0 (jce G q11) 65 [none, none, none, none] []) X) (lp_Qu_sum_12 gf y0 y1 n x2 M) (Wk p l e R s m args below meth c G 4 Q 0 0 jN0 (jce G M) 12 [some (.ref y0), some (.int y1), some (.int x2), none] []) := by
      intro y0 y1 hy0 n
      induction n with
      | zero => intro x2 M; exact J_none
      | succ n ih =>
        intro x2 M
        unfold lp_Qu_sum_12
        refine J_mono (w_iload_n C (jd jdt_Qu_sum 8 rfl) rfl) ?_
        refine J_mono (w_sipush_1600 C (jd jdt_Qu_sum 9 rfl)) ?_
        refine J_br (w_icmp_ge C (jd jdt_Qu_sum 10 rfl) rfl) (fun h3 => J_pos h3 ?_) (fun h3 => J_neg h3 ?_)
        · refine J_mono (w_aload_n C (jd jdt_Qu_sum 11 rfl) rfl) ?_
          refine J_mono (w_ldcS (i := 16) C rfl (jd jdt_Qu_sum 12 rfl)) ?_
          refine J_bind (fun q4 hq4 => ?_)
          refine J_mono (jc_Qu_134 C hy0 (C_Qu_signAmong l G F y0 1016 hy0 (jks_of 16) M hq4) rfl (by omega) (jd jdt_Qu_sum 13 rfl)) ?_
          refine J_mono (w_bipush_32 C (jd jdt_Qu_sum 14 rfl)) ?_
          refine J_br (w_icmp_eq C (jd jdt_Qu_sum 15 rfl) rfl) (fun h5 => J_pos h5 ?_) (fun h5 => J_neg h5 ?_)
          · exact J_some (fun hx => Wk_sb hx trivial)
          · refine J_mono (w_aload_n C (jd jdt_Qu_sum 16 rfl) rfl) ?_
            refine J_mono (w_ldcS (i := 16) C rfl (jd jdt_Qu_sum 17 rfl)) ?_
            refine J_bind (fun q6 hq6 => ?_)
            refine J_mono (jc_Qu_134 C hy0 (C_Qu_signAmong l G F y0 1016 hy0 (jks_of 16) M hq6) rfl (by omega) (jd jdt_Qu_sum 18 rfl)) ?_
            refine J_mono (w_istore_n (ls' := [some (.ref y0), some (.int y1), some (.int x2), some (.int q6)]) C (jd jdt_Qu_sum 19 rfl) (by decide) rfl rfl) ?_
            refine J_mono (w_aload_n C (jd jdt_Qu_sum 20 rfl) rfl) ?_
            refine J_mono (jg_Qu_9 C hy0 (jd jdt_Qu_sum 21 rfl)) ?_
            refine J_bind (fun q7 hq7 => ?_)
            refine J_mono (jc_Qu_46 C (jkf_6_0 hy0) (C_Re_step l G F (jpf y0 0) (jkf_6_0 hy0) M hq7) rfl (by omega) (jd jdt_Qu_sum 22 rfl)) ?_
            refine J_mono (w_aload_n C (jd jdt_Qu_sum 23 rfl) rfl) ?_
            refine J_mono (w_iload_n C (jd jdt_Qu_sum 24 rfl) rfl) ?_
            refine J_bind (fun q8 hq8 => ?_)
            refine J_mono (jc_Qu_148 C hy0 (gh.2.1 y0 y1 hy0 q7 _ hq8) rfl (by omega) (jd jdt_Qu_sum 25 rfl)) ?_
            refine J_br (w_if_ne (y := 0) C (jd jdt_Qu_sum 26 rfl) rfl) (fun h9 => J_pos h9 ?_) (fun h9 => J_neg h9 ?_)
            · refine J_mono (w_iconst_0 C (jd jdt_Qu_sum 27 rfl)) ?_
              exact J_some (fun hx => hR 0 q8.2 hx _ _ (jd jdt_Qu_sum 28 rfl) rfl)
            · refine J_mono (w_aload_n C (jd jdt_Qu_sum 29 rfl) rfl) ?_
              refine J_mono (w_iload_n C (jd jdt_Qu_sum 30 rfl) rfl) ?_
              refine J_bind (fun q10 hq10 => ?_)
              refine J_mono (jc_Qu_95 C hy0 (C_Qu_join l G F y0 q6 hy0 q8.2 hq10) rfl (by omega) (jd jdt_Qu_sum 31 rfl)) ?_
              refine J_mono (w_iinc (v := x2 + 1) (ls' := [some (.ref y0), some (.int y1), some (.int (x2 + 1)), some (.int q6)]) C (jd jdt_Qu_sum 32 rfl) rfl rfl (by decide) rfl rfl) ?_
              refine J_mono (w_goto C (jd jdt_Qu_sum 33 rfl) rfl) ?_
              exact J_sub (ih (x2 + 1) q10) ⟨rfl, rfl, rfl, trivial⟩
        · exact J_some (fun hx => Wk_sb hx trivial)
    refine J_sb (fun (q11 : SM) => Wk p l e R s m args below meth c G 4 Q 0 0 jN0 (jce G q11) 65 [none, none, none, none] []) (J_sub (L12 a0 a1 hp0 jfuel 0 q1.2) ⟨rfl, rfl, rfl, trivial⟩) (fun q11 => ?_)
    refine J_mono (w_iconst_1 C (jd jdt_Qu_sum 34 rfl)) ?_
    exact J_some (fun hx => hR 1 q11 hx _ _ (jd jdt_Qu_sum 35 rfl) rfl)
end
def lp_Qu_product_12 (gf : (Nat → Int32 → SM → Option (Int32 × SM)) × (Nat → Int32 → SM → Option (Int32 × SM)) × (Nat → Int32 → SM → Option (Int32 × SM)) × (Nat → Int32 → Int32 → SM → Option (Int32 × SM)) × (Nat → Int32 → Int32 → SM → Option (Int32 × SM))) (y0 : Nat) (y1 : Int32) : Nat → Int32 → SM → Option ((SM) ⊕ (Int32 × SM))
  | 0, _, _ => none
  | n + 1, x2, M => if x2 < 1600 then ((f_Qu_signAmong y0 1015 M).bind fun q4 => if q4 = 32 then (some (.inl M)) else ((f_Qu_signAmong y0 1015 M).bind fun q6 => (f_Re_step (jpf y0 0) M).bind fun q7 => (gf.2.2.1 y0 y1 q7).bind fun q8 => if q8.1 = 0 then (some (.inr (0, q8.2))) else ((f_Qu_join y0 q6 q8.2).bind fun q10 => lp_Qu_product_12 gf y0 y1 n (x2 + 1) q10))) else (some (.inl M))
def fb_Qu_product (gf : (Nat → Int32 → SM → Option (Int32 × SM)) × (Nat → Int32 → SM → Option (Int32 × SM)) × (Nat → Int32 → SM → Option (Int32 × SM)) × (Nat → Int32 → Int32 → SM → Option (Int32 × SM)) × (Nat → Int32 → Int32 → SM → Option (Int32 × SM))) (a0 : Nat) (a1 : Int32) (M : SM) : Option (Int32 × SM) := (gf.2.2.1 a0 a1 M).bind fun q1 => if q1.1 = 0 then (some (0, q1.2)) else (jsb (lp_Qu_product_12 gf a0 a1 jfuel 0 q1.2) id fun q11 => some (1, q11))
section
variable {p : Program} {l : Launch} {e : Env} {R : Room} {s : State} {m : MethodId} {args : Array Value} {below : List Frame} {meth : Method} {c : Code} {G : JG} {D : Nat} {Q : State → Prop}
set_option maxHeartbeats 4000000 in
set_option maxRecDepth 20000 in
theorem K_Qu_product (gf : (Nat → Int32 → SM → Option (Int32 × SM)) × (Nat → Int32 → SM → Option (Int32 × SM)) × (Nat → Int32 → SM → Option (Int32 × SM)) × (Nat → Int32 → Int32 → SM → Option (Int32 × SM)) × (Nat → Int32 → Int32 → SM → Option (Int32 × SM))) (C : jCx p R s m args meth c G jb_Qu_product 4 D "SluicePit$Question") (F : jF G = false) {n : Nat} (gh : (∀ (a0 : Nat) (a1 : Int32) (hp0 : jkd a0 6) (M : SM) (q : (Int32 × SM)), (gf.1 a0 a1 M) = some q → jMet l jy_Qu_sum jb_Qu_sum 4 (some FieldType.boolean) (9 + n) 0 0 G [.ref a0, .int a1] jN0 (jce G M) (some (.int q.1)) jN0 (jce G q.2)) ∧ (∀ (a0 : Nat) (a1 : Int32) (hp0 : jkd a0 6) (M : SM) (q : (Int32 × SM)), (gf.2.1 a0 a1 M) = some q → jMet l jy_Qu_product jb_Qu_product 4 (some FieldType.boolean) (9 + n) 0 0 G [.ref a0, .int a1] jN0 (jce G M) (some (.int q.1)) jN0 (jce G q.2)) ∧ (∀ (a0 : Nat) (a1 : Int32) (hp0 : jkd a0 6) (M : SM) (q : (Int32 × SM)), (gf.2.2.1 a0 a1 M) = some q → jMet l jy_Qu_part jb_Qu_part 3 (some FieldType.boolean) (9 + n) 0 0 G [.ref a0, .int a1] jN0 (jce G M) (some (.int q.1)) jN0 (jce G q.2)) ∧ (∀ (a0 : Nat) (a1 : Int32) (a2 : Int32) (hp0 : jkd a0 6) (M : SM) (q : (Int32 × SM)), (gf.2.2.2.1 a0 a1 a2 M) = some q → jMet l jy_Qu_bracket jb_Qu_bracket 3 (some FieldType.boolean) (9 + n) 0 0 G [.ref a0, .int a1, .int a2] jN0 (jce G M) (some (.int q.1)) jN0 (jce G q.2)) ∧ (∀ (a0 : Nat) (a1 : Int32) (a2 : Int32) (hp0 : jkd a0 6) (M : SM) (q : (Int32 × SM)), (gf.2.2.2.2 a0 a1 a2 M) = some q → jMet l jy_Qu_lookUp jb_Qu_lookUp 5 (some FieldType.boolean) (9 + n) 0 0 G [.ref a0, .int a1, .int a2] jN0 (jce G M) (some (.int q.1)) jN0 (jce G q.2))) (hD : 9 + n + 1 ≤ D) (a0 : Nat) (a1 : Int32) (hp0 : jkd a0 6) (M : SM) (X : (Int32 × SM) → Prop) (hR : ∀ v M', X (v, M') → ∀ (pc : Nat) (ls : List (Option Value)), decode jb_Qu_product pc = .ok (.ireturn, 1) → narrow FieldType.boolean (.int v) = .int v → Wk p l e R s m args below meth c G 4 Q 0 0 jN0 (jce G M') pc ls [.int v]) : J X (fb_Qu_product gf a0 a1 M) (Wk p l e R s m args below meth c G 4 Q 0 0 jN0 (jce G M) 0 [some (.ref a0), some (.int a1), none, none] []) := by
  unfold fb_Qu_product
  refine J_mono (w_aload_n C (jd jdt_Qu_product 0 rfl) rfl) ?_
  refine J_mono (w_iload_n C (jd jdt_Qu_product 1 rfl) rfl) ?_
  refine J_bind (fun q1 hq1 => ?_)
  refine J_mono (jc_Qu_153 C hp0 (gh.2.2.1 a0 a1 hp0 M _ hq1) rfl (by omega) (jd jdt_Qu_product 2 rfl)) ?_
  refine J_br (w_if_ne (y := 0) C (jd jdt_Qu_product 3 rfl) rfl) (fun h2 => J_pos h2 ?_) (fun h2 => J_neg h2 ?_)
  · refine J_mono (w_iconst_0 C (jd jdt_Qu_product 4 rfl)) ?_
    exact J_some (fun hx => hR 0 q1.2 hx _ _ (jd jdt_Qu_product 5 rfl) rfl)
  · refine J_mono (w_iconst_0 C (jd jdt_Qu_product 6 rfl)) ?_
    refine J_mono (w_istore_n (ls' := [some (.ref a0), some (.int a1), some (.int 0), none]) C (jd jdt_Qu_product 7 rfl) (by decide) rfl rfl) ?_
    have L12 : ∀ (y0 : Nat) (y1 : Int32) (hy0 : jkd y0 6) (n : Nat) (x2 : Int32) (M : SM), J (Sum.elim (fun (q11 : SM) => Wk p l e R s m args below meth c G 4 Q 0 0 jN0 (jce G q11) 65 [none, none, none, none] []) X) (lp_Qu_product_12 gf y0 y1 n x2 M) (Wk p l e R s m args below meth c G 4 Q 0 0 jN0 (jce G M) 12 [some (.ref y0), some (.int y1), some (.int x2), none] []) := by
      intro y0 y1 hy0 n
      induction n with
      | zero => intro x2 M; exact J_none
      | succ n ih =>
        intro x2 M
        unfold lp_Qu_product_12
        refine J_mono (w_iload_n C (jd jdt_Qu_product 8 rfl) rfl) ?_
        refine J_mono (w_sipush_1600 C (jd jdt_Qu_product 9 rfl)) ?_
        refine J_br (w_icmp_ge C (jd jdt_Qu_product 10 rfl) rfl) (fun h3 => J_pos h3 ?_) (fun h3 => J_neg h3 ?_)
        · refine J_mono (w_aload_n C (jd jdt_Qu_product 11 rfl) rfl) ?_
          refine J_mono (w_ldcS (i := 15) C rfl (jd jdt_Qu_product 12 rfl)) ?_
          refine J_bind (fun q4 hq4 => ?_)
          refine J_mono (jc_Qu_134 C hy0 (C_Qu_signAmong l G F y0 1015 hy0 (jks_of 15) M hq4) rfl (by omega) (jd jdt_Qu_product 13 rfl)) ?_
          refine J_mono (w_bipush_32 C (jd jdt_Qu_product 14 rfl)) ?_
          refine J_br (w_icmp_eq C (jd jdt_Qu_product 15 rfl) rfl) (fun h5 => J_pos h5 ?_) (fun h5 => J_neg h5 ?_)
          · exact J_some (fun hx => Wk_sb hx trivial)
          · refine J_mono (w_aload_n C (jd jdt_Qu_product 16 rfl) rfl) ?_
            refine J_mono (w_ldcS (i := 15) C rfl (jd jdt_Qu_product 17 rfl)) ?_
            refine J_bind (fun q6 hq6 => ?_)
            refine J_mono (jc_Qu_134 C hy0 (C_Qu_signAmong l G F y0 1015 hy0 (jks_of 15) M hq6) rfl (by omega) (jd jdt_Qu_product 18 rfl)) ?_
            refine J_mono (w_istore_n (ls' := [some (.ref y0), some (.int y1), some (.int x2), some (.int q6)]) C (jd jdt_Qu_product 19 rfl) (by decide) rfl rfl) ?_
            refine J_mono (w_aload_n C (jd jdt_Qu_product 20 rfl) rfl) ?_
            refine J_mono (jg_Qu_9 C hy0 (jd jdt_Qu_product 21 rfl)) ?_
            refine J_bind (fun q7 hq7 => ?_)
            refine J_mono (jc_Qu_46 C (jkf_6_0 hy0) (C_Re_step l G F (jpf y0 0) (jkf_6_0 hy0) M hq7) rfl (by omega) (jd jdt_Qu_product 22 rfl)) ?_
            refine J_mono (w_aload_n C (jd jdt_Qu_product 23 rfl) rfl) ?_
            refine J_mono (w_iload_n C (jd jdt_Qu_product 24 rfl) rfl) ?_
            refine J_bind (fun q8 hq8 => ?_)
            refine J_mono (jc_Qu_153 C hy0 (gh.2.2.1 y0 y1 hy0 q7 _ hq8) rfl (by omega) (jd jdt_Qu_product 25 rfl)) ?_
            refine J_br (w_if_ne (y := 0) C (jd jdt_Qu_product 26 rfl) rfl) (fun h9 => J_pos h9 ?_) (fun h9 => J_neg h9 ?_)
            · refine J_mono (w_iconst_0 C (jd jdt_Qu_product 27 rfl)) ?_
              exact J_some (fun hx => hR 0 q8.2 hx _ _ (jd jdt_Qu_product 28 rfl) rfl)
            · refine J_mono (w_aload_n C (jd jdt_Qu_product 29 rfl) rfl) ?_
              refine J_mono (w_iload_n C (jd jdt_Qu_product 30 rfl) rfl) ?_
              refine J_bind (fun q10 hq10 => ?_)
              refine J_mono (jc_Qu_95 C hy0 (C_Qu_join l G F y0 q6 hy0 q8.2 hq10) rfl (by omega) (jd jdt_Qu_product 31 rfl)) ?_
              refine J_mono (w_iinc (v := x2 + 1) (ls' := [some (.ref y0), some (.int y1), some (.int (x2 + 1)), some (.int q6)]) C (jd jdt_Qu_product 32 rfl) rfl rfl (by decide) rfl rfl) ?_
              refine J_mono (w_goto C (jd jdt_Qu_product 33 rfl) rfl) ?_
              exact J_sub (ih (x2 + 1) q10) ⟨rfl, rfl, rfl, trivial⟩
        · exact J_some (fun hx => Wk_sb hx trivial)
    refine J_sb (fun (q11 : SM) => Wk p l e R s m args below meth c G 4 Q 0 0 jN0 (jce G q11) 65 [none, none, none, none] []) (J_sub (L12 a0 a1 hp0 jfuel 0 q1.2) ⟨rfl, rfl, rfl, trivial⟩) (fun q11 => ?_)
    refine J_mono (w_iconst_1 C (jd jdt_Qu_product 34 rfl)) ?_
    exact J_some (fun hx => hR 1 q11 hx _ _ (jd jdt_Qu_product 35 rfl) rfl)
end
def fb_Qu_part (gf : (Nat → Int32 → SM → Option (Int32 × SM)) × (Nat → Int32 → SM → Option (Int32 × SM)) × (Nat → Int32 → SM → Option (Int32 × SM)) × (Nat → Int32 → Int32 → SM → Option (Int32 × SM)) × (Nat → Int32 → Int32 → SM → Option (Int32 × SM))) (a0 : Nat) (a1 : Int32) (M : SM) : Option (Int32 × SM) := (f_Re_isSomeNumber (jpf a0 0) M).bind fun q1 => if q1 = 0 then ((f_Re_isSign (jpf a0 0) 40 M).bind fun q3 => if q3 = 0 then ((f_Re_wordAmong (jpf a0 0) 1014 M).bind fun q5 => if q5 < 0 then ((f_Re_refuse (jpf a0 0) M).bind fun q7 => (bchk q7.1).bind fun b8 => some (b8, q7.2)) else (if q5 = 6 then ((gf.2.2.2.2 a0 q5 a1 M).bind fun q10 => (bchk q10.1).bind fun b11 => some (b11, q10.2)) else (if q5 = 7 then ((gf.2.2.2.2 a0 q5 a1 M).bind fun q13 => (bchk q13.1).bind fun b14 => some (b14, q13.2)) else ((f_Re_step (jpf a0 0) M).bind fun q15 => if q5 < 6 then ((f_Qu_addMeasure a0 q5 q15).bind fun q17 => some (1, q17)) else ((f_Re_isSign (jpf a0 0) 40 q15).bind fun q18 => if q18 = 0 then ((f_Re_refuse (jpf a0 0) q15).bind fun q20 => (bchk q20.1).bind fun b21 => some (b21, q20.2)) else ((gf.2.2.2.1 a0 a1 1 q15).bind fun q22 => if q22.1 = 0 then (some (0, q22.2)) else ((f_Re_takeSign (jpf a0 0) 41 q22.2).bind fun q24 => if q24.1 = 0 then (some (0, q24.2)) else ((if q5 = 8 then (some 109) else (some 77) : Option (Int32)).bind fun q26 => (f_Qu_join a0 q26 q24.2).bind fun q28 => some (1, q28))))))))) else ((gf.2.2.2.1 a0 a1 0 M).bind fun q29 => if q29.1 = 0 then (some (0, q29.2)) else ((f_Re_takeSign (jpf a0 0) 41 q29.2).bind fun q31 => if q31.1 = 0 then (some (0, q31.2)) else (some (1, q31.2))))) else ((f_Re_takeNumber (jpf a0 0) 0 9999 M).bind fun q33 => if q33.1 < 0 then (some (0, q33.2)) else ((f_Qu_addNumber a0 q33.1 q33.2).bind fun q35 => some (1, q35)))
section
variable {p : Program} {l : Launch} {e : Env} {R : Room} {s : State} {m : MethodId} {args : Array Value} {below : List Frame} {meth : Method} {c : Code} {G : JG} {D : Nat} {Q : State → Prop}
set_option maxHeartbeats 4000000 in
set_option maxRecDepth 20000 in
theorem K_Qu_part (gf : (Nat → Int32 → SM → Option (Int32 × SM)) × (Nat → Int32 → SM → Option (Int32 × SM)) × (Nat → Int32 → SM → Option (Int32 × SM)) × (Nat → Int32 → Int32 → SM → Option (Int32 × SM)) × (Nat → Int32 → Int32 → SM → Option (Int32 × SM))) (C : jCx p R s m args meth c G jb_Qu_part 3 D "SluicePit$Question") (F : jF G = false) {n : Nat} (gh : (∀ (a0 : Nat) (a1 : Int32) (hp0 : jkd a0 6) (M : SM) (q : (Int32 × SM)), (gf.1 a0 a1 M) = some q → jMet l jy_Qu_sum jb_Qu_sum 4 (some FieldType.boolean) (9 + n) 0 0 G [.ref a0, .int a1] jN0 (jce G M) (some (.int q.1)) jN0 (jce G q.2)) ∧ (∀ (a0 : Nat) (a1 : Int32) (hp0 : jkd a0 6) (M : SM) (q : (Int32 × SM)), (gf.2.1 a0 a1 M) = some q → jMet l jy_Qu_product jb_Qu_product 4 (some FieldType.boolean) (9 + n) 0 0 G [.ref a0, .int a1] jN0 (jce G M) (some (.int q.1)) jN0 (jce G q.2)) ∧ (∀ (a0 : Nat) (a1 : Int32) (hp0 : jkd a0 6) (M : SM) (q : (Int32 × SM)), (gf.2.2.1 a0 a1 M) = some q → jMet l jy_Qu_part jb_Qu_part 3 (some FieldType.boolean) (9 + n) 0 0 G [.ref a0, .int a1] jN0 (jce G M) (some (.int q.1)) jN0 (jce G q.2)) ∧ (∀ (a0 : Nat) (a1 : Int32) (a2 : Int32) (hp0 : jkd a0 6) (M : SM) (q : (Int32 × SM)), (gf.2.2.2.1 a0 a1 a2 M) = some q → jMet l jy_Qu_bracket jb_Qu_bracket 3 (some FieldType.boolean) (9 + n) 0 0 G [.ref a0, .int a1, .int a2] jN0 (jce G M) (some (.int q.1)) jN0 (jce G q.2)) ∧ (∀ (a0 : Nat) (a1 : Int32) (a2 : Int32) (hp0 : jkd a0 6) (M : SM) (q : (Int32 × SM)), (gf.2.2.2.2 a0 a1 a2 M) = some q → jMet l jy_Qu_lookUp jb_Qu_lookUp 5 (some FieldType.boolean) (9 + n) 0 0 G [.ref a0, .int a1, .int a2] jN0 (jce G M) (some (.int q.1)) jN0 (jce G q.2))) (hD : 9 + n + 1 ≤ D) (a0 : Nat) (a1 : Int32) (hp0 : jkd a0 6) (M : SM) (X : (Int32 × SM) → Prop) (hR : ∀ v M', X (v, M') → ∀ (pc : Nat) (ls : List (Option Value)), decode jb_Qu_part pc = .ok (.ireturn, 1) → narrow FieldType.boolean (.int v) = .int v → Wk p l e R s m args below meth c G 3 Q 0 0 jN0 (jce G M') pc ls [.int v]) : J X (fb_Qu_part gf a0 a1 M) (Wk p l e R s m args below meth c G 3 Q 0 0 jN0 (jce G M) 0 [some (.ref a0), some (.int a1), none] []) := by
  unfold fb_Qu_part
  refine J_mono (w_aload_n C (jd jdt_Qu_part 0 rfl) rfl) ?_
  refine J_mono (jg_Qu_9 C hp0 (jd jdt_Qu_part 1 rfl)) ?_
  refine J_bind (fun q1 hq1 => ?_)
  refine J_mono (jc_Qu_158 C (jkf_6_0 hp0) (C_Re_isSomeNumber l G F (jpf a0 0) (jkf_6_0 hp0) M hq1) rfl (by omega) (jd jdt_Qu_part 2 rfl)) ?_
  refine J_br (w_if_eq (y := 0) C (jd jdt_Qu_part 3 rfl) rfl) (fun h2 => J_pos h2 ?_) (fun h2 => J_neg h2 ?_)
  · refine J_mono (w_aload_n C (jd jdt_Qu_part 19 rfl) rfl) ?_
    refine J_mono (jg_Qu_9 C hp0 (jd jdt_Qu_part 20 rfl)) ?_
    refine J_mono (w_bipush_40 C (jd jdt_Qu_part 21 rfl)) ?_
    refine J_bind (fun q3 hq3 => ?_)
    refine J_mono (jc_Qu_112 C (jkf_6_0 hp0) (C_Re_isSign l G F (jpf a0 0) 40 (jkf_6_0 hp0) M hq3) rfl (by omega) (jd jdt_Qu_part 22 rfl)) ?_
    refine J_br (w_if_eq (y := 0) C (jd jdt_Qu_part 23 rfl) rfl) (fun h4 => J_pos h4 ?_) (fun h4 => J_neg h4 ?_)
    · refine J_mono (w_aload_n C (jd jdt_Qu_part 38 rfl) rfl) ?_
      refine J_mono (jg_Qu_9 C hp0 (jd jdt_Qu_part 39 rfl)) ?_
      refine J_mono (w_ldcS (i := 14) C rfl (jd jdt_Qu_part 40 rfl)) ?_
      refine J_bind (fun q5 hq5 => ?_)
      refine J_mono (jc_Qu_34 C (jkf_6_0 hp0) (C_Re_wordAmong l G F (jpf a0 0) 1014 (jkf_6_0 hp0) (jks_of 14) M hq5) rfl (by omega) (jd jdt_Qu_part 41 rfl)) ?_
      refine J_mono (w_istore_n (ls' := [some (.ref a0), some (.int a1), some (.int q5)]) C (jd jdt_Qu_part 42 rfl) (by decide) rfl rfl) ?_
      refine J_mono (w_iload_n C (jd jdt_Qu_part 43 rfl) rfl) ?_
      refine J_br (w_if_ge (y := 0) C (jd jdt_Qu_part 44 rfl) rfl) (fun h6 => J_pos h6 ?_) (fun h6 => J_neg h6 ?_)
      · refine J_mono (w_aload_n C (jd jdt_Qu_part 45 rfl) rfl) ?_
        refine J_mono (jg_Qu_9 C hp0 (jd jdt_Qu_part 46 rfl)) ?_
        refine J_bind (fun q7 hq7 => ?_)
        refine J_mono (jc_Qu_40 C (jkf_6_0 hp0) (C_Re_refuse l G F (jpf a0 0) (jkf_6_0 hp0) M hq7) rfl (by omega) (jd jdt_Qu_part 47 rfl)) ?_
        refine J_bind (fun b8 hb8 => ?_)
        obtain rfl := bchk_e hb8
        exact J_some (fun hx => hR _ q7.2 hx _ _ (jd jdt_Qu_part 48 rfl) (bchk_n hb8))
      · refine J_mono (w_iload_n C (jd jdt_Qu_part 49 rfl) rfl) ?_
        refine J_mono (w_bipush_6 C (jd jdt_Qu_part 50 rfl)) ?_
        refine J_br (w_icmp_eq C (jd jdt_Qu_part 51 rfl) rfl) (fun h9 => J_pos h9 ?_) (fun h9 => J_neg h9 ?_)
        · refine J_mono (w_aload_n C (jd jdt_Qu_part 55 rfl) rfl) ?_
          refine J_mono (w_iload_n C (jd jdt_Qu_part 56 rfl) rfl) ?_
          refine J_mono (w_iload_n C (jd jdt_Qu_part 57 rfl) rfl) ?_
          refine J_bind (fun q10 hq10 => ?_)
          refine J_mono (jc_Qu_170 C hp0 (gh.2.2.2.2 a0 q5 a1 hp0 M _ hq10) rfl (by omega) (jd jdt_Qu_part 58 rfl)) ?_
          refine J_bind (fun b11 hb11 => ?_)
          obtain rfl := bchk_e hb11
          exact J_some (fun hx => hR _ q10.2 hx _ _ (jd jdt_Qu_part 59 rfl) (bchk_n hb11))
        · refine J_mono (w_iload_n C (jd jdt_Qu_part 52 rfl) rfl) ?_
          refine J_mono (w_bipush_7 C (jd jdt_Qu_part 53 rfl)) ?_
          refine J_br (w_icmp_ne C (jd jdt_Qu_part 54 rfl) rfl) (fun h12 => J_pos h12 ?_) (fun h12 => J_neg h12 ?_)
          · refine J_mono (w_aload_n C (jd jdt_Qu_part 55 rfl) rfl) ?_
            refine J_mono (w_iload_n C (jd jdt_Qu_part 56 rfl) rfl) ?_
            refine J_mono (w_iload_n C (jd jdt_Qu_part 57 rfl) rfl) ?_
            refine J_bind (fun q13 hq13 => ?_)
            refine J_mono (jc_Qu_170 C hp0 (gh.2.2.2.2 a0 q5 a1 hp0 M _ hq13) rfl (by omega) (jd jdt_Qu_part 58 rfl)) ?_
            refine J_bind (fun b14 hb14 => ?_)
            obtain rfl := bchk_e hb14
            exact J_some (fun hx => hR _ q13.2 hx _ _ (jd jdt_Qu_part 59 rfl) (bchk_n hb14))
          · refine J_mono (w_aload_n C (jd jdt_Qu_part 60 rfl) rfl) ?_
            refine J_mono (jg_Qu_9 C hp0 (jd jdt_Qu_part 61 rfl)) ?_
            refine J_bind (fun q15 hq15 => ?_)
            refine J_mono (jc_Qu_46 C (jkf_6_0 hp0) (C_Re_step l G F (jpf a0 0) (jkf_6_0 hp0) M hq15) rfl (by omega) (jd jdt_Qu_part 62 rfl)) ?_
            refine J_mono (w_iload_n C (jd jdt_Qu_part 63 rfl) rfl) ?_
            refine J_mono (w_bipush_6 C (jd jdt_Qu_part 64 rfl)) ?_
            refine J_br (w_icmp_ge C (jd jdt_Qu_part 65 rfl) rfl) (fun h16 => J_pos h16 ?_) (fun h16 => J_neg h16 ?_)
            · refine J_mono (w_aload_n C (jd jdt_Qu_part 66 rfl) rfl) ?_
              refine J_mono (w_iload_n C (jd jdt_Qu_part 67 rfl) rfl) ?_
              refine J_bind (fun q17 hq17 => ?_)
              refine J_mono (jc_Qu_173 C hp0 (C_Qu_addMeasure l G F a0 q5 hp0 q15 hq17) rfl (by omega) (jd jdt_Qu_part 68 rfl)) ?_
              refine J_mono (w_iconst_1 C (jd jdt_Qu_part 69 rfl)) ?_
              exact J_some (fun hx => hR 1 q17 hx _ _ (jd jdt_Qu_part 70 rfl) rfl)
            · refine J_mono (w_aload_n C (jd jdt_Qu_part 71 rfl) rfl) ?_
              refine J_mono (jg_Qu_9 C hp0 (jd jdt_Qu_part 72 rfl)) ?_
              refine J_mono (w_bipush_40 C (jd jdt_Qu_part 73 rfl)) ?_
              refine J_bind (fun q18 hq18 => ?_)
              refine J_mono (jc_Qu_112 C (jkf_6_0 hp0) (C_Re_isSign l G F (jpf a0 0) 40 (jkf_6_0 hp0) q15 hq18) rfl (by omega) (jd jdt_Qu_part 74 rfl)) ?_
              refine J_br (w_if_ne (y := 0) C (jd jdt_Qu_part 75 rfl) rfl) (fun h19 => J_pos h19 ?_) (fun h19 => J_neg h19 ?_)
              · refine J_mono (w_aload_n C (jd jdt_Qu_part 76 rfl) rfl) ?_
                refine J_mono (jg_Qu_9 C hp0 (jd jdt_Qu_part 77 rfl)) ?_
                refine J_bind (fun q20 hq20 => ?_)
                refine J_mono (jc_Qu_40 C (jkf_6_0 hp0) (C_Re_refuse l G F (jpf a0 0) (jkf_6_0 hp0) q15 hq20) rfl (by omega) (jd jdt_Qu_part 78 rfl)) ?_
                refine J_bind (fun b21 hb21 => ?_)
                obtain rfl := bchk_e hb21
                exact J_some (fun hx => hR _ q20.2 hx _ _ (jd jdt_Qu_part 79 rfl) (bchk_n hb21))
              · refine J_mono (w_aload_n C (jd jdt_Qu_part 80 rfl) rfl) ?_
                refine J_mono (w_iload_n C (jd jdt_Qu_part 81 rfl) rfl) ?_
                refine J_mono (w_iconst_1 C (jd jdt_Qu_part 82 rfl)) ?_
                refine J_bind (fun q22 hq22 => ?_)
                refine J_mono (jc_Qu_164 C hp0 (gh.2.2.2.1 a0 a1 1 hp0 q15 _ hq22) rfl (by omega) (jd jdt_Qu_part 83 rfl)) ?_
                refine J_br (w_if_eq (y := 0) C (jd jdt_Qu_part 84 rfl) rfl) (fun h23 => J_pos h23 ?_) (fun h23 => J_neg h23 ?_)
                · refine J_mono (w_iconst_0 C (jd jdt_Qu_part 90 rfl)) ?_
                  exact J_some (fun hx => hR 0 q22.2 hx _ _ (jd jdt_Qu_part 91 rfl) rfl)
                · refine J_mono (w_aload_n C (jd jdt_Qu_part 85 rfl) rfl) ?_
                  refine J_mono (jg_Qu_9 C hp0 (jd jdt_Qu_part 86 rfl)) ?_
                  refine J_mono (w_bipush_41 C (jd jdt_Qu_part 87 rfl)) ?_
                  refine J_bind (fun q24 hq24 => ?_)
                  refine J_mono (jc_Qu_116 C (jkf_6_0 hp0) (C_Re_takeSign l G F (jpf a0 0) 41 (jkf_6_0 hp0) q22.2 hq24) rfl (by omega) (jd jdt_Qu_part 88 rfl)) ?_
                  refine J_br (w_if_ne (y := 0) C (jd jdt_Qu_part 89 rfl) rfl) (fun h25 => J_pos h25 ?_) (fun h25 => J_neg h25 ?_)
                  · refine J_mono (w_iconst_0 C (jd jdt_Qu_part 90 rfl)) ?_
                    exact J_some (fun hx => hR 0 q24.2 hx _ _ (jd jdt_Qu_part 91 rfl) rfl)
                  · refine J_mono (w_aload_n C (jd jdt_Qu_part 92 rfl) rfl) ?_
                    refine J_mono (w_iload_n C (jd jdt_Qu_part 93 rfl) rfl) ?_
                    refine J_mono (w_bipush_8 C (jd jdt_Qu_part 94 rfl)) ?_
                    refine J_seq (fun (q26 : Int32) => Wk p l e R s m args below meth c G 3 Q 0 0 jN0 (jce G q24.2) 192 [none, none, none] [.int q26, .ref a0]) ?_ (fun q26 hq26 => ?_)
                    · refine J_br (w_icmp_ne C (jd jdt_Qu_part 95 rfl) rfl) (fun h27 => J_pos h27 ?_) (fun h27 => J_neg h27 ?_)
                      · refine J_mono (w_bipush_109 C (jd jdt_Qu_part 96 rfl)) ?_
                        refine J_mono (w_goto C (jd jdt_Qu_part 97 rfl) rfl) ?_
                        exact J_some (fun hx => Wk_sb hx trivial)
                      · refine J_mono (w_bipush_77 C (jd jdt_Qu_part 98 rfl)) ?_
                        exact J_some (fun hx => Wk_sb hx trivial)
                    · refine J_bind (fun q28 hq28 => ?_)
                      refine J_mono (jc_Qu_95 C hp0 (C_Qu_join l G F a0 q26 hp0 q24.2 hq28) rfl (by omega) (jd jdt_Qu_part 99 rfl)) ?_
                      refine J_mono (w_iconst_1 C (jd jdt_Qu_part 100 rfl)) ?_
                      exact J_some (fun hx => hR 1 q28 hx _ _ (jd jdt_Qu_part 101 rfl) rfl)
    · refine J_mono (w_aload_n C (jd jdt_Qu_part 24 rfl) rfl) ?_
      refine J_mono (w_iload_n C (jd jdt_Qu_part 25 rfl) rfl) ?_
      refine J_mono (w_iconst_0 C (jd jdt_Qu_part 26 rfl)) ?_
      refine J_bind (fun q29 hq29 => ?_)
      refine J_mono (jc_Qu_164 C hp0 (gh.2.2.2.1 a0 a1 0 hp0 M _ hq29) rfl (by omega) (jd jdt_Qu_part 27 rfl)) ?_
      refine J_br (w_if_eq (y := 0) C (jd jdt_Qu_part 28 rfl) rfl) (fun h30 => J_pos h30 ?_) (fun h30 => J_neg h30 ?_)
      · refine J_mono (w_iconst_0 C (jd jdt_Qu_part 36 rfl)) ?_
        exact J_some (fun hx => hR 0 q29.2 hx _ _ (jd jdt_Qu_part 37 rfl) rfl)
      · refine J_mono (w_aload_n C (jd jdt_Qu_part 29 rfl) rfl) ?_
        refine J_mono (jg_Qu_9 C hp0 (jd jdt_Qu_part 30 rfl)) ?_
        refine J_mono (w_bipush_41 C (jd jdt_Qu_part 31 rfl)) ?_
        refine J_bind (fun q31 hq31 => ?_)
        refine J_mono (jc_Qu_116 C (jkf_6_0 hp0) (C_Re_takeSign l G F (jpf a0 0) 41 (jkf_6_0 hp0) q29.2 hq31) rfl (by omega) (jd jdt_Qu_part 32 rfl)) ?_
        refine J_br (w_if_eq (y := 0) C (jd jdt_Qu_part 33 rfl) rfl) (fun h32 => J_pos h32 ?_) (fun h32 => J_neg h32 ?_)
        · refine J_mono (w_iconst_0 C (jd jdt_Qu_part 36 rfl)) ?_
          exact J_some (fun hx => hR 0 q31.2 hx _ _ (jd jdt_Qu_part 37 rfl) rfl)
        · refine J_mono (w_iconst_1 C (jd jdt_Qu_part 34 rfl)) ?_
          refine J_mono (w_goto C (jd jdt_Qu_part 35 rfl) rfl) ?_
          exact J_some (fun hx => hR 1 q31.2 hx _ _ (jd jdt_Qu_part 37 rfl) rfl)
  · refine J_mono (w_aload_n C (jd jdt_Qu_part 4 rfl) rfl) ?_
    refine J_mono (jg_Qu_9 C hp0 (jd jdt_Qu_part 5 rfl)) ?_
    refine J_mono (w_iconst_0 C (jd jdt_Qu_part 6 rfl)) ?_
    refine J_mono (w_sipush_9999 C (jd jdt_Qu_part 7 rfl)) ?_
    refine J_bind (fun q33 hq33 => ?_)
    refine J_mono (jc_Qu_161 C (jkf_6_0 hp0) (C_Re_takeNumber l G F (jpf a0 0) 0 9999 (jkf_6_0 hp0) M hq33) rfl (by omega) (jd jdt_Qu_part 8 rfl)) ?_
    refine J_mono (w_istore_n (ls' := [some (.ref a0), some (.int a1), some (.int q33.1)]) C (jd jdt_Qu_part 9 rfl) (by decide) rfl rfl) ?_
    refine J_mono (w_iload_n C (jd jdt_Qu_part 10 rfl) rfl) ?_
    refine J_br (w_if_ge (y := 0) C (jd jdt_Qu_part 11 rfl) rfl) (fun h34 => J_pos h34 ?_) (fun h34 => J_neg h34 ?_)
    · refine J_mono (w_iconst_0 C (jd jdt_Qu_part 12 rfl)) ?_
      exact J_some (fun hx => hR 0 q33.2 hx _ _ (jd jdt_Qu_part 13 rfl) rfl)
    · refine J_mono (w_aload_n C (jd jdt_Qu_part 14 rfl) rfl) ?_
      refine J_mono (w_iload_n C (jd jdt_Qu_part 15 rfl) rfl) ?_
      refine J_bind (fun q35 hq35 => ?_)
      refine J_mono (jc_Qu_121 C hp0 (C_Qu_addNumber l G F a0 q33.1 hp0 q33.2 hq35) rfl (by omega) (jd jdt_Qu_part 16 rfl)) ?_
      refine J_mono (w_iconst_1 C (jd jdt_Qu_part 17 rfl)) ?_
      exact J_some (fun hx => hR 1 q35 hx _ _ (jd jdt_Qu_part 18 rfl) rfl)
end
def fb_Qu_bracket (gf : (Nat → Int32 → SM → Option (Int32 × SM)) × (Nat → Int32 → SM → Option (Int32 × SM)) × (Nat → Int32 → SM → Option (Int32 × SM)) × (Nat → Int32 → Int32 → SM → Option (Int32 × SM)) × (Nat → Int32 → Int32 → SM → Option (Int32 × SM))) (a0 : Nat) (a1 : Int32) (a2 : Int32) (M : SM) : Option (Int32 × SM) := (f_Qu_mayOpen a0 a1 M).bind fun q1 => if q1.1 = 0 then (some (0, q1.2)) else ((f_Re_step (jpf a0 0) q1.2).bind fun q3 => (gf.1 a0 (a1 + 1) q3).bind fun q4 => if q4.1 = 0 then (some (0, q4.2)) else (if a2 = 0 then (some (1, q4.2)) else ((f_Re_takeSign (jpf a0 0) 44 q4.2).bind fun q7 => if q7.1 = 0 then (some (0, q7.2)) else ((gf.1 a0 (a1 + 1) q7.2).bind fun q9 => if q9.1 = 0 then (some (0, q9.2)) else (some (1, q9.2))))))
section
variable {p : Program} {l : Launch} {e : Env} {R : Room} {s : State} {m : MethodId} {args : Array Value} {below : List Frame} {meth : Method} {c : Code} {G : JG} {D : Nat} {Q : State → Prop}
set_option maxHeartbeats 4000000 in
set_option maxRecDepth 20000 in
theorem K_Qu_bracket (gf : (Nat → Int32 → SM → Option (Int32 × SM)) × (Nat → Int32 → SM → Option (Int32 × SM)) × (Nat → Int32 → SM → Option (Int32 × SM)) × (Nat → Int32 → Int32 → SM → Option (Int32 × SM)) × (Nat → Int32 → Int32 → SM → Option (Int32 × SM))) (C : jCx p R s m args meth c G jb_Qu_bracket 3 D "SluicePit$Question") (F : jF G = false) {n : Nat} (gh : (∀ (a0 : Nat) (a1 : Int32) (hp0 : jkd a0 6) (M : SM) (q : (Int32 × SM)), (gf.1 a0 a1 M) = some q → jMet l jy_Qu_sum jb_Qu_sum 4 (some FieldType.boolean) (9 + n) 0 0 G [.ref a0, .int a1] jN0 (jce G M) (some (.int q.1)) jN0 (jce G q.2)) ∧ (∀ (a0 : Nat) (a1 : Int32) (hp0 : jkd a0 6) (M : SM) (q : (Int32 × SM)), (gf.2.1 a0 a1 M) = some q → jMet l jy_Qu_product jb_Qu_product 4 (some FieldType.boolean) (9 + n) 0 0 G [.ref a0, .int a1] jN0 (jce G M) (some (.int q.1)) jN0 (jce G q.2)) ∧ (∀ (a0 : Nat) (a1 : Int32) (hp0 : jkd a0 6) (M : SM) (q : (Int32 × SM)), (gf.2.2.1 a0 a1 M) = some q → jMet l jy_Qu_part jb_Qu_part 3 (some FieldType.boolean) (9 + n) 0 0 G [.ref a0, .int a1] jN0 (jce G M) (some (.int q.1)) jN0 (jce G q.2)) ∧ (∀ (a0 : Nat) (a1 : Int32) (a2 : Int32) (hp0 : jkd a0 6) (M : SM) (q : (Int32 × SM)), (gf.2.2.2.1 a0 a1 a2 M) = some q → jMet l jy_Qu_bracket jb_Qu_bracket 3 (some FieldType.boolean) (9 + n) 0 0 G [.ref a0, .int a1, .int a2] jN0 (jce G M) (some (.int q.1)) jN0 (jce G q.2)) ∧ (∀ (a0 : Nat) (a1 : Int32) (a2 : Int32) (hp0 : jkd a0 6) (M : SM) (q : (Int32 × SM)), (gf.2.2.2.2 a0 a1 a2 M) = some q → jMet l jy_Qu_lookUp jb_Qu_lookUp 5 (some FieldType.boolean) (9 + n) 0 0 G [.ref a0, .int a1, .int a2] jN0 (jce G M) (some (.int q.1)) jN0 (jce G q.2))) (hD : 9 + n + 1 ≤ D) (a0 : Nat) (a1 : Int32) (a2 : Int32) (hp0 : jkd a0 6) (M : SM) (X : (Int32 × SM) → Prop) (hR : ∀ v M', X (v, M') → ∀ (pc : Nat) (ls : List (Option Value)), decode jb_Qu_bracket pc = .ok (.ireturn, 1) → narrow FieldType.boolean (.int v) = .int v → Wk p l e R s m args below meth c G 3 Q 0 0 jN0 (jce G M') pc ls [.int v]) : J X (fb_Qu_bracket gf a0 a1 a2 M) (Wk p l e R s m args below meth c G 3 Q 0 0 jN0 (jce G M) 0 [some (.ref a0), some (.int a1), some (.int a2)] []) := by
  unfold fb_Qu_bracket
  refine J_mono (w_aload_n C (jd jdt_Qu_bracket 0 rfl) rfl) ?_
  refine J_mono (w_iload_n C (jd jdt_Qu_bracket 1 rfl) rfl) ?_
  refine J_bind (fun q1 hq1 => ?_)
  refine J_mono (jc_Qu_106 C hp0 (C_Qu_mayOpen l G F a0 a1 hp0 M hq1) rfl (by omega) (jd jdt_Qu_bracket 2 rfl)) ?_
  refine J_br (w_if_ne (y := 0) C (jd jdt_Qu_bracket 3 rfl) rfl) (fun h2 => J_pos h2 ?_) (fun h2 => J_neg h2 ?_)
  · refine J_mono (w_iconst_0 C (jd jdt_Qu_bracket 4 rfl)) ?_
    exact J_some (fun hx => hR 0 q1.2 hx _ _ (jd jdt_Qu_bracket 5 rfl) rfl)
  · refine J_mono (w_aload_n C (jd jdt_Qu_bracket 6 rfl) rfl) ?_
    refine J_mono (jg_Qu_9 C hp0 (jd jdt_Qu_bracket 7 rfl)) ?_
    refine J_bind (fun q3 hq3 => ?_)
    refine J_mono (jc_Qu_46 C (jkf_6_0 hp0) (C_Re_step l G F (jpf a0 0) (jkf_6_0 hp0) q1.2 hq3) rfl (by omega) (jd jdt_Qu_bracket 8 rfl)) ?_
    refine J_mono (w_aload_n C (jd jdt_Qu_bracket 9 rfl) rfl) ?_
    refine J_mono (w_iload_n C (jd jdt_Qu_bracket 10 rfl) rfl) ?_
    refine J_mono (w_iconst_1 C (jd jdt_Qu_bracket 11 rfl)) ?_
    refine J_mono (w_iadd C (jd jdt_Qu_bracket 12 rfl)) ?_
    refine J_bind (fun q4 hq4 => ?_)
    refine J_mono (jc_Qu_53 C hp0 (gh.1 a0 (a1 + 1) hp0 q3 _ hq4) rfl (by omega) (jd jdt_Qu_bracket 13 rfl)) ?_
    refine J_br (w_if_ne (y := 0) C (jd jdt_Qu_bracket 14 rfl) rfl) (fun h5 => J_pos h5 ?_) (fun h5 => J_neg h5 ?_)
    · refine J_mono (w_iconst_0 C (jd jdt_Qu_bracket 15 rfl)) ?_
      exact J_some (fun hx => hR 0 q4.2 hx _ _ (jd jdt_Qu_bracket 16 rfl) rfl)
    · refine J_mono (w_iload_n C (jd jdt_Qu_bracket 17 rfl) rfl) ?_
      refine J_br (w_if_eq (y := 0) C (jd jdt_Qu_bracket 18 rfl) rfl) (fun h6 => J_pos h6 ?_) (fun h6 => J_neg h6 ?_)
      · refine J_mono (w_iconst_1 C (jd jdt_Qu_bracket 30 rfl)) ?_
        refine J_mono (w_goto C (jd jdt_Qu_bracket 31 rfl) rfl) ?_
        exact J_some (fun hx => hR 1 q4.2 hx _ _ (jd jdt_Qu_bracket 33 rfl) rfl)
      · refine J_mono (w_aload_n C (jd jdt_Qu_bracket 19 rfl) rfl) ?_
        refine J_mono (jg_Qu_9 C hp0 (jd jdt_Qu_bracket 20 rfl)) ?_
        refine J_mono (w_bipush_44 C (jd jdt_Qu_bracket 21 rfl)) ?_
        refine J_bind (fun q7 hq7 => ?_)
        refine J_mono (jc_Qu_116 C (jkf_6_0 hp0) (C_Re_takeSign l G F (jpf a0 0) 44 (jkf_6_0 hp0) q4.2 hq7) rfl (by omega) (jd jdt_Qu_bracket 22 rfl)) ?_
        refine J_br (w_if_eq (y := 0) C (jd jdt_Qu_bracket 23 rfl) rfl) (fun h8 => J_pos h8 ?_) (fun h8 => J_neg h8 ?_)
        · refine J_mono (w_iconst_0 C (jd jdt_Qu_bracket 32 rfl)) ?_
          exact J_some (fun hx => hR 0 q7.2 hx _ _ (jd jdt_Qu_bracket 33 rfl) rfl)
        · refine J_mono (w_aload_n C (jd jdt_Qu_bracket 24 rfl) rfl) ?_
          refine J_mono (w_iload_n C (jd jdt_Qu_bracket 25 rfl) rfl) ?_
          refine J_mono (w_iconst_1 C (jd jdt_Qu_bracket 26 rfl)) ?_
          refine J_mono (w_iadd C (jd jdt_Qu_bracket 27 rfl)) ?_
          refine J_bind (fun q9 hq9 => ?_)
          refine J_mono (jc_Qu_53 C hp0 (gh.1 a0 (a1 + 1) hp0 q7.2 _ hq9) rfl (by omega) (jd jdt_Qu_bracket 28 rfl)) ?_
          refine J_br (w_if_eq (y := 0) C (jd jdt_Qu_bracket 29 rfl) rfl) (fun h10 => J_pos h10 ?_) (fun h10 => J_neg h10 ?_)
          · refine J_mono (w_iconst_0 C (jd jdt_Qu_bracket 32 rfl)) ?_
            exact J_some (fun hx => hR 0 q9.2 hx _ _ (jd jdt_Qu_bracket 33 rfl) rfl)
          · refine J_mono (w_iconst_1 C (jd jdt_Qu_bracket 30 rfl)) ?_
            refine J_mono (w_goto C (jd jdt_Qu_bracket 31 rfl) rfl) ?_
            exact J_some (fun hx => hR 1 q9.2 hx _ _ (jd jdt_Qu_bracket 33 rfl) rfl)
end
def lp_Qu_lookUp_31 (gf : (Nat → Int32 → SM → Option (Int32 × SM)) × (Nat → Int32 → SM → Option (Int32 × SM)) × (Nat → Int32 → SM → Option (Int32 × SM)) × (Nat → Int32 → Int32 → SM → Option (Int32 × SM)) × (Nat → Int32 → Int32 → SM → Option (Int32 × SM))) (y0 : Nat) (y1 : Int32) : Nat → Int32 → SM → Option (SM)
  | 0, _, _ => none
  | n + 1, x3, M => if 60 < x3 then (some M) else ((f_Sp_cellOf (jpf y0 2) ((M.1 y0 3) - 1) x3 M).bind fun q7 => (if y1 = 6 then ((f_Qu_waterOf y0 q7 x3 M).bind fun q10 => some q10) else ((f_Qu_boatOf y0 q7 x3 M).bind fun q11 => some q11) : Option (Int32)).bind fun q8 => (f_Sp_putCell (jpf y0 2) ((M.1 y0 3) - 1) x3 q8 M).bind fun q12 => lp_Qu_lookUp_31 gf y0 y1 n (x3 + 1) q12)
def fb_Qu_lookUp (gf : (Nat → Int32 → SM → Option (Int32 × SM)) × (Nat → Int32 → SM → Option (Int32 × SM)) × (Nat → Int32 → SM → Option (Int32 × SM)) × (Nat → Int32 → Int32 → SM → Option (Int32 × SM)) × (Nat → Int32 → Int32 → SM → Option (Int32 × SM))) (a0 : Nat) (a1 : Int32) (a2 : Int32) (M : SM) : Option (Int32 × SM) := (f_Qu_mayOpen a0 a2 M).bind fun q1 => if q1.1 = 0 then (some (0, q1.2)) else ((f_Re_step (jpf a0 0) q1.2).bind fun q3 => (gf.2.2.1 a0 (a2 + 1) q3).bind fun q4 => if q4.1 = 0 then (some (0, q4.2)) else ((lp_Qu_lookUp_31 gf a0 a1 jfuel 0 q4.2).bind fun q13 => some (1, q13)))
section
variable {p : Program} {l : Launch} {e : Env} {R : Room} {s : State} {m : MethodId} {args : Array Value} {below : List Frame} {meth : Method} {c : Code} {G : JG} {D : Nat} {Q : State → Prop}
set_option maxHeartbeats 4000000 in
set_option maxRecDepth 20000 in
theorem K_Qu_lookUp (gf : (Nat → Int32 → SM → Option (Int32 × SM)) × (Nat → Int32 → SM → Option (Int32 × SM)) × (Nat → Int32 → SM → Option (Int32 × SM)) × (Nat → Int32 → Int32 → SM → Option (Int32 × SM)) × (Nat → Int32 → Int32 → SM → Option (Int32 × SM))) (C : jCx p R s m args meth c G jb_Qu_lookUp 5 D "SluicePit$Question") (F : jF G = false) {n : Nat} (gh : (∀ (a0 : Nat) (a1 : Int32) (hp0 : jkd a0 6) (M : SM) (q : (Int32 × SM)), (gf.1 a0 a1 M) = some q → jMet l jy_Qu_sum jb_Qu_sum 4 (some FieldType.boolean) (9 + n) 0 0 G [.ref a0, .int a1] jN0 (jce G M) (some (.int q.1)) jN0 (jce G q.2)) ∧ (∀ (a0 : Nat) (a1 : Int32) (hp0 : jkd a0 6) (M : SM) (q : (Int32 × SM)), (gf.2.1 a0 a1 M) = some q → jMet l jy_Qu_product jb_Qu_product 4 (some FieldType.boolean) (9 + n) 0 0 G [.ref a0, .int a1] jN0 (jce G M) (some (.int q.1)) jN0 (jce G q.2)) ∧ (∀ (a0 : Nat) (a1 : Int32) (hp0 : jkd a0 6) (M : SM) (q : (Int32 × SM)), (gf.2.2.1 a0 a1 M) = some q → jMet l jy_Qu_part jb_Qu_part 3 (some FieldType.boolean) (9 + n) 0 0 G [.ref a0, .int a1] jN0 (jce G M) (some (.int q.1)) jN0 (jce G q.2)) ∧ (∀ (a0 : Nat) (a1 : Int32) (a2 : Int32) (hp0 : jkd a0 6) (M : SM) (q : (Int32 × SM)), (gf.2.2.2.1 a0 a1 a2 M) = some q → jMet l jy_Qu_bracket jb_Qu_bracket 3 (some FieldType.boolean) (9 + n) 0 0 G [.ref a0, .int a1, .int a2] jN0 (jce G M) (some (.int q.1)) jN0 (jce G q.2)) ∧ (∀ (a0 : Nat) (a1 : Int32) (a2 : Int32) (hp0 : jkd a0 6) (M : SM) (q : (Int32 × SM)), (gf.2.2.2.2 a0 a1 a2 M) = some q → jMet l jy_Qu_lookUp jb_Qu_lookUp 5 (some FieldType.boolean) (9 + n) 0 0 G [.ref a0, .int a1, .int a2] jN0 (jce G M) (some (.int q.1)) jN0 (jce G q.2))) (hD : 9 + n + 1 ≤ D) (a0 : Nat) (a1 : Int32) (a2 : Int32) (hp0 : jkd a0 6) (M : SM) (X : (Int32 × SM) → Prop) (hR : ∀ v M', X (v, M') → ∀ (pc : Nat) (ls : List (Option Value)), decode jb_Qu_lookUp pc = .ok (.ireturn, 1) → narrow FieldType.boolean (.int v) = .int v → Wk p l e R s m args below meth c G 5 Q 0 0 jN0 (jce G M') pc ls [.int v]) : J X (fb_Qu_lookUp gf a0 a1 a2 M) (Wk p l e R s m args below meth c G 5 Q 0 0 jN0 (jce G M) 0 [some (.ref a0), some (.int a1), some (.int a2), none, none] []) := by
  unfold fb_Qu_lookUp
  refine J_mono (w_aload_n C (jd jdt_Qu_lookUp 0 rfl) rfl) ?_
  refine J_mono (w_iload_n C (jd jdt_Qu_lookUp 1 rfl) rfl) ?_
  refine J_bind (fun q1 hq1 => ?_)
  refine J_mono (jc_Qu_106 C hp0 (C_Qu_mayOpen l G F a0 a2 hp0 M hq1) rfl (by omega) (jd jdt_Qu_lookUp 2 rfl)) ?_
  refine J_br (w_if_ne (y := 0) C (jd jdt_Qu_lookUp 3 rfl) rfl) (fun h2 => J_pos h2 ?_) (fun h2 => J_neg h2 ?_)
  · refine J_mono (w_iconst_0 C (jd jdt_Qu_lookUp 4 rfl)) ?_
    exact J_some (fun hx => hR 0 q1.2 hx _ _ (jd jdt_Qu_lookUp 5 rfl) rfl)
  · refine J_mono (w_aload_n C (jd jdt_Qu_lookUp 6 rfl) rfl) ?_
    refine J_mono (jg_Qu_9 C hp0 (jd jdt_Qu_lookUp 7 rfl)) ?_
    refine J_bind (fun q3 hq3 => ?_)
    refine J_mono (jc_Qu_46 C (jkf_6_0 hp0) (C_Re_step l G F (jpf a0 0) (jkf_6_0 hp0) q1.2 hq3) rfl (by omega) (jd jdt_Qu_lookUp 8 rfl)) ?_
    refine J_mono (w_aload_n C (jd jdt_Qu_lookUp 9 rfl) rfl) ?_
    refine J_mono (w_iload_n C (jd jdt_Qu_lookUp 10 rfl) rfl) ?_
    refine J_mono (w_iconst_1 C (jd jdt_Qu_lookUp 11 rfl)) ?_
    refine J_mono (w_iadd C (jd jdt_Qu_lookUp 12 rfl)) ?_
    refine J_bind (fun q4 hq4 => ?_)
    refine J_mono (jc_Qu_153 C hp0 (gh.2.2.1 a0 (a2 + 1) hp0 q3 _ hq4) rfl (by omega) (jd jdt_Qu_lookUp 13 rfl)) ?_
    refine J_br (w_if_ne (y := 0) C (jd jdt_Qu_lookUp 14 rfl) rfl) (fun h5 => J_pos h5 ?_) (fun h5 => J_neg h5 ?_)
    · refine J_mono (w_iconst_0 C (jd jdt_Qu_lookUp 15 rfl)) ?_
      exact J_some (fun hx => hR 0 q4.2 hx _ _ (jd jdt_Qu_lookUp 16 rfl) rfl)
    · refine J_mono (w_iconst_0 C (jd jdt_Qu_lookUp 17 rfl)) ?_
      refine J_mono (w_istore_n (ls' := [some (.ref a0), some (.int a1), some (.int a2), some (.int 0), none]) C (jd jdt_Qu_lookUp 18 rfl) (by decide) rfl rfl) ?_
      have L31 : ∀ (y0 : Nat) (y1 : Int32) (hy0 : jkd y0 6) (n : Nat) (x3 : Int32) (M : SM), J (fun (q13 : SM) => Wk p l e R s m args below meth c G 5 Q 0 0 jN0 (jce G q13) 96 [none, none, none, none, none] []) (lp_Qu_lookUp_31 gf y0 y1 n x3 M) (Wk p l e R s m args below meth c G 5 Q 0 0 jN0 (jce G M) 31 [some (.ref y0), some (.int y1), none, some (.int x3), none] []) := by
        intro y0 y1 hy0 n
        induction n with
        | zero => intro x3 M; exact J_none
        | succ n ih =>
          intro x3 M
          unfold lp_Qu_lookUp_31
          refine J_mono (w_iload_n C (jd jdt_Qu_lookUp 19 rfl) rfl) ?_
          refine J_mono (w_bipush_60 C (jd jdt_Qu_lookUp 20 rfl)) ?_
          refine J_br (w_icmp_gt C (jd jdt_Qu_lookUp 21 rfl) rfl) (fun h6 => J_pos h6 ?_) (fun h6 => J_neg h6 ?_)
          · exact J_some (fun hx => Wk_sb hx trivial)
          · refine J_mono (w_aload_n C (jd jdt_Qu_lookUp 22 rfl) rfl) ?_
            refine J_mono (jg_Qu_25 C hy0 (jd jdt_Qu_lookUp 23 rfl)) ?_
            refine J_mono (w_aload_n C (jd jdt_Qu_lookUp 24 rfl) rfl) ?_
            refine J_mono (jg_Qu_28 C hy0 (jd jdt_Qu_lookUp 25 rfl)) ?_
            refine J_mono (w_iconst_1 C (jd jdt_Qu_lookUp 26 rfl)) ?_
            refine J_mono (w_isub C (jd jdt_Qu_lookUp 27 rfl)) ?_
            refine J_mono (w_iload_n C (jd jdt_Qu_lookUp 28 rfl) rfl) ?_
            refine J_bind (fun q7 hq7 => ?_)
            refine J_mono (jc_Qu_66 C (C_Sp_cellOf l G F (jpf y0 2) ((M.1 y0 3) - 1) x3 (jkf_6_2 hy0) M hq7) rfl (by omega) (jd jdt_Qu_lookUp 29 rfl)) ?_
            refine J_mono (w_istore (ls' := [some (.ref y0), some (.int y1), none, some (.int x3), some (.int q7)]) C (jd jdt_Qu_lookUp 30 rfl) (by decide) rfl rfl) ?_
            refine J_mono (w_aload_n C (jd jdt_Qu_lookUp 31 rfl) rfl) ?_
            refine J_mono (jg_Qu_25 C hy0 (jd jdt_Qu_lookUp 32 rfl)) ?_
            refine J_mono (w_aload_n C (jd jdt_Qu_lookUp 33 rfl) rfl) ?_
            refine J_mono (jg_Qu_28 C hy0 (jd jdt_Qu_lookUp 34 rfl)) ?_
            refine J_mono (w_iconst_1 C (jd jdt_Qu_lookUp 35 rfl)) ?_
            refine J_mono (w_isub C (jd jdt_Qu_lookUp 36 rfl)) ?_
            refine J_mono (w_iload_n C (jd jdt_Qu_lookUp 37 rfl) rfl) ?_
            refine J_mono (w_iload_n C (jd jdt_Qu_lookUp 38 rfl) rfl) ?_
            refine J_mono (w_bipush_6 C (jd jdt_Qu_lookUp 39 rfl)) ?_
            refine J_seq (fun (q8 : Int32) => Wk p l e R s m args below meth c G 5 Q 0 0 jN0 (jce G M) 87 [some (.ref y0), some (.int y1), none, some (.int x3), none] [.int q8, .int x3, .int ((M.1 y0 3) - 1), .ref (jpf y0 2)]) ?_ (fun q8 hq8 => ?_)
            · refine J_br (w_icmp_ne C (jd jdt_Qu_lookUp 40 rfl) rfl) (fun h9 => J_pos h9 ?_) (fun h9 => J_neg h9 ?_)
              · refine J_mono (w_aload_n C (jd jdt_Qu_lookUp 41 rfl) rfl) ?_
                refine J_mono (w_iload C (jd jdt_Qu_lookUp 42 rfl) rfl) ?_
                refine J_mono (w_iload_n C (jd jdt_Qu_lookUp 43 rfl) rfl) ?_
                refine J_bind (fun q10 hq10 => ?_)
                refine J_mono (jc_Qu_176 C hy0 (C_Qu_waterOf l G F y0 q7 x3 hy0 M hq10) rfl (by omega) (jd jdt_Qu_lookUp 44 rfl)) ?_
                refine J_mono (w_goto C (jd jdt_Qu_lookUp 45 rfl) rfl) ?_
                exact J_some (fun hx => Wk_sb hx ⟨rfl, rfl, rfl, trivial⟩)
              · refine J_mono (w_aload_n C (jd jdt_Qu_lookUp 46 rfl) rfl) ?_
                refine J_mono (w_iload C (jd jdt_Qu_lookUp 47 rfl) rfl) ?_
                refine J_mono (w_iload_n C (jd jdt_Qu_lookUp 48 rfl) rfl) ?_
                refine J_bind (fun q11 hq11 => ?_)
                refine J_mono (jc_Qu_179 C hy0 (C_Qu_boatOf l G F y0 q7 x3 hy0 M hq11) rfl (by omega) (jd jdt_Qu_lookUp 49 rfl)) ?_
                exact J_some (fun hx => Wk_sb hx ⟨rfl, rfl, rfl, trivial⟩)
            · refine J_bind (fun q12 hq12 => ?_)
              refine J_mono (jc_Qu_128 C (C_Sp_putCell l G F (jpf y0 2) ((M.1 y0 3) - 1) x3 q8 (jkf_6_2 hy0) M hq12) rfl (by omega) (jd jdt_Qu_lookUp 50 rfl)) ?_
              refine J_mono (w_iinc (v := x3 + 1) (ls' := [some (.ref y0), some (.int y1), none, some (.int (x3 + 1)), none]) C (jd jdt_Qu_lookUp 51 rfl) rfl rfl (by decide) rfl rfl) ?_
              refine J_mono (w_goto C (jd jdt_Qu_lookUp 52 rfl) rfl) ?_
              exact J_sub (ih (x3 + 1) q12) ⟨rfl, rfl, rfl, trivial⟩
      refine J_seq (fun (q13 : SM) => Wk p l e R s m args below meth c G 5 Q 0 0 jN0 (jce G q13) 96 [none, none, none, none, none] []) (J_sub (L31 a0 a1 hp0 jfuel 0 q4.2) ⟨rfl, rfl, rfl, trivial⟩) (fun q13 hq13 => ?_)
      refine J_mono (w_iconst_1 C (jd jdt_Qu_lookUp 53 rfl)) ?_
      exact J_some (fun hx => hR 1 q13 hx _ _ (jd jdt_Qu_lookUp 54 rfl) rfl)
end
def fg_Qu_sum : Nat → (Nat → Int32 → SM → Option (Int32 × SM)) × (Nat → Int32 → SM → Option (Int32 × SM)) × (Nat → Int32 → SM → Option (Int32 × SM)) × (Nat → Int32 → Int32 → SM → Option (Int32 × SM)) × (Nat → Int32 → Int32 → SM → Option (Int32 × SM))
  | 0 => (fun _ _ _ => none, fun _ _ _ => none, fun _ _ _ => none, fun _ _ _ _ => none, fun _ _ _ _ => none)
  | n + 1 => (fb_Qu_sum (fg_Qu_sum n), fb_Qu_product (fg_Qu_sum n), fb_Qu_part (fg_Qu_sum n), fb_Qu_bracket (fg_Qu_sum n), fb_Qu_lookUp (fg_Qu_sum n))
def f_Qu_sum (n : Nat) : (Nat → Int32 → SM → Option (Int32 × SM)) := (fg_Qu_sum n).1
def f_Qu_product (n : Nat) : (Nat → Int32 → SM → Option (Int32 × SM)) := (fg_Qu_sum n).2.1
def f_Qu_part (n : Nat) : (Nat → Int32 → SM → Option (Int32 × SM)) := (fg_Qu_sum n).2.2.1
def f_Qu_bracket (n : Nat) : (Nat → Int32 → Int32 → SM → Option (Int32 × SM)) := (fg_Qu_sum n).2.2.2.1
def f_Qu_lookUp (n : Nat) : (Nat → Int32 → Int32 → SM → Option (Int32 × SM)) := (fg_Qu_sum n).2.2.2.2
set_option maxHeartbeats 4000000 in
set_option maxRecDepth 20000 in
theorem CG_Qu_sum (l : Launch) (G : JG) (F : jF G = false) : ∀ n : Nat, (∀ (a0 : Nat) (a1 : Int32) (hp0 : jkd a0 6) (M : SM) (q : (Int32 × SM)), ((fg_Qu_sum n).1 a0 a1 M) = some q → jMet l jy_Qu_sum jb_Qu_sum 4 (some FieldType.boolean) (9 + n) 0 0 G [.ref a0, .int a1] jN0 (jce G M) (some (.int q.1)) jN0 (jce G q.2)) ∧ (∀ (a0 : Nat) (a1 : Int32) (hp0 : jkd a0 6) (M : SM) (q : (Int32 × SM)), ((fg_Qu_sum n).2.1 a0 a1 M) = some q → jMet l jy_Qu_product jb_Qu_product 4 (some FieldType.boolean) (9 + n) 0 0 G [.ref a0, .int a1] jN0 (jce G M) (some (.int q.1)) jN0 (jce G q.2)) ∧ (∀ (a0 : Nat) (a1 : Int32) (hp0 : jkd a0 6) (M : SM) (q : (Int32 × SM)), ((fg_Qu_sum n).2.2.1 a0 a1 M) = some q → jMet l jy_Qu_part jb_Qu_part 3 (some FieldType.boolean) (9 + n) 0 0 G [.ref a0, .int a1] jN0 (jce G M) (some (.int q.1)) jN0 (jce G q.2)) ∧ (∀ (a0 : Nat) (a1 : Int32) (a2 : Int32) (hp0 : jkd a0 6) (M : SM) (q : (Int32 × SM)), ((fg_Qu_sum n).2.2.2.1 a0 a1 a2 M) = some q → jMet l jy_Qu_bracket jb_Qu_bracket 3 (some FieldType.boolean) (9 + n) 0 0 G [.ref a0, .int a1, .int a2] jN0 (jce G M) (some (.int q.1)) jN0 (jce G q.2)) ∧ (∀ (a0 : Nat) (a1 : Int32) (a2 : Int32) (hp0 : jkd a0 6) (M : SM) (q : (Int32 × SM)), ((fg_Qu_sum n).2.2.2.2 a0 a1 a2 M) = some q → jMet l jy_Qu_lookUp jb_Qu_lookUp 5 (some FieldType.boolean) (9 + n) 0 0 G [.ref a0, .int a1, .int a2] jN0 (jce G M) (some (.int q.1)) jN0 (jce G q.2))
  | 0 => ⟨fun _ _ _ _ _ h => (by cases h), fun _ _ _ _ _ h => (by cases h), fun _ _ _ _ _ h => (by cases h), fun _ _ _ _ _ _ h => (by cases h), fun _ _ _ _ _ _ h => (by cases h)⟩
  | n + 1 => by
    have gh := CG_Qu_sum l G F n
    refine ⟨?_, ?_, ?_, ?_, ?_⟩
    · intro a0 a1 hp0 M q hf
      exact j_met jo_Qu_sum (by omega) (Nat.le_of_ble_eq_true rfl) (fun p e s m args below meth c C hr hm => K_Qu_sum (fg_Qu_sum n) C F gh (Nat.le_refl _) a0 a1 hp0 M (fun t => t = q) (fun v M' hX pc ls hd hn => by cases hX; exact w_iret C hr hn hd) _ hf rfl)
    · intro a0 a1 hp0 M q hf
      exact j_met jo_Qu_product (by omega) (Nat.le_of_ble_eq_true rfl) (fun p e s m args below meth c C hr hm => K_Qu_product (fg_Qu_sum n) C F gh (Nat.le_refl _) a0 a1 hp0 M (fun t => t = q) (fun v M' hX pc ls hd hn => by cases hX; exact w_iret C hr hn hd) _ hf rfl)
    · intro a0 a1 hp0 M q hf
      exact j_met jo_Qu_part (by omega) (Nat.le_of_ble_eq_true rfl) (fun p e s m args below meth c C hr hm => K_Qu_part (fg_Qu_sum n) C F gh (Nat.le_refl _) a0 a1 hp0 M (fun t => t = q) (fun v M' hX pc ls hd hn => by cases hX; exact w_iret C hr hn hd) _ hf rfl)
    · intro a0 a1 a2 hp0 M q hf
      exact j_met jo_Qu_bracket (by omega) (Nat.le_of_ble_eq_true rfl) (fun p e s m args below meth c C hr hm => K_Qu_bracket (fg_Qu_sum n) C F gh (Nat.le_refl _) a0 a1 a2 hp0 M (fun t => t = q) (fun v M' hX pc ls hd hn => by cases hX; exact w_iret C hr hn hd) _ hf rfl)
    · intro a0 a1 a2 hp0 M q hf
      exact j_met jo_Qu_lookUp (by omega) (Nat.le_of_ble_eq_true rfl) (fun p e s m args below meth c C hr hm => K_Qu_lookUp (fg_Qu_sum n) C F gh (Nat.le_refl _) a0 a1 a2 hp0 M (fun t => t = q) (fun v M' hX pc ls hd hn => by cases hX; exact w_iret C hr hn hd) _ hf rfl)
theorem C_Qu_sum (l : Launch) (G : JG) (F : jF G = false) (n : Nat) (a0 : Nat) (a1 : Int32) (hp0 : jkd a0 6) (M : SM) {q : (Int32 × SM)} (hf : f_Qu_sum n a0 a1 M = some q) : jMet l jy_Qu_sum jb_Qu_sum 4 (some FieldType.boolean) (9 + n) 0 0 G [.ref a0, .int a1] jN0 (jce G M) (some (.int q.1)) jN0 (jce G q.2) := (CG_Qu_sum l G F n).1 a0 a1 hp0 M q hf
theorem C_Qu_product (l : Launch) (G : JG) (F : jF G = false) (n : Nat) (a0 : Nat) (a1 : Int32) (hp0 : jkd a0 6) (M : SM) {q : (Int32 × SM)} (hf : f_Qu_product n a0 a1 M = some q) : jMet l jy_Qu_product jb_Qu_product 4 (some FieldType.boolean) (9 + n) 0 0 G [.ref a0, .int a1] jN0 (jce G M) (some (.int q.1)) jN0 (jce G q.2) := (CG_Qu_sum l G F n).2.1 a0 a1 hp0 M q hf
theorem C_Qu_part (l : Launch) (G : JG) (F : jF G = false) (n : Nat) (a0 : Nat) (a1 : Int32) (hp0 : jkd a0 6) (M : SM) {q : (Int32 × SM)} (hf : f_Qu_part n a0 a1 M = some q) : jMet l jy_Qu_part jb_Qu_part 3 (some FieldType.boolean) (9 + n) 0 0 G [.ref a0, .int a1] jN0 (jce G M) (some (.int q.1)) jN0 (jce G q.2) := (CG_Qu_sum l G F n).2.2.1 a0 a1 hp0 M q hf
theorem C_Qu_bracket (l : Launch) (G : JG) (F : jF G = false) (n : Nat) (a0 : Nat) (a1 : Int32) (a2 : Int32) (hp0 : jkd a0 6) (M : SM) {q : (Int32 × SM)} (hf : f_Qu_bracket n a0 a1 a2 M = some q) : jMet l jy_Qu_bracket jb_Qu_bracket 3 (some FieldType.boolean) (9 + n) 0 0 G [.ref a0, .int a1, .int a2] jN0 (jce G M) (some (.int q.1)) jN0 (jce G q.2) := (CG_Qu_sum l G F n).2.2.2.1 a0 a1 a2 hp0 M q hf
theorem C_Qu_lookUp (l : Launch) (G : JG) (F : jF G = false) (n : Nat) (a0 : Nat) (a1 : Int32) (a2 : Int32) (hp0 : jkd a0 6) (M : SM) {q : (Int32 × SM)} (hf : f_Qu_lookUp n a0 a1 a2 M = some q) : jMet l jy_Qu_lookUp jb_Qu_lookUp 5 (some FieldType.boolean) (9 + n) 0 0 G [.ref a0, .int a1, .int a2] jN0 (jce G M) (some (.int q.1)) jN0 (jce G q.2) := (CG_Qu_sum l G F n).2.2.2.2 a0 a1 a2 hp0 M q hf
def f_Qu_comparison (a0 : Nat) (a1 : Int32) (M : SM) : Option (Int32 × SM) := ((f_Qu_sum 40) a0 a1 M).bind fun q1 => if q1.1 = 0 then (some (0, q1.2)) else ((f_Qu_signAmong a0 1017 q1.2).bind fun q3 => if q3 = 32 then ((f_Re_refuse (jpf a0 0) q1.2).bind fun q5 => (bchk q5.1).bind fun b6 => some (b6, q5.2)) else ((f_Re_step (jpf a0 0) q1.2).bind fun q7 => ((f_Qu_sum 40) a0 a1 q7).bind fun q8 => if q8.1 = 0 then (some (0, q8.2)) else ((f_Qu_join a0 q3 q8.2).bind fun q10 => some (1, q10))))
section
variable {p : Program} {l : Launch} {e : Env} {R : Room} {s : State} {m : MethodId} {args : Array Value} {below : List Frame} {meth : Method} {c : Code} {G : JG} {D : Nat} {Q : State → Prop}
set_option maxHeartbeats 4000000 in
set_option maxRecDepth 20000 in
theorem K_Qu_comparison (C : jCx p R s m args meth c G jb_Qu_comparison 3 D "SluicePit$Question") (F : jF G = false) (hD : 50 ≤ D) (a0 : Nat) (a1 : Int32) (hp0 : jkd a0 6) (M : SM) (X : (Int32 × SM) → Prop) (hR : ∀ v M', X (v, M') → ∀ (pc : Nat) (ls : List (Option Value)), decode jb_Qu_comparison pc = .ok (.ireturn, 1) → narrow FieldType.boolean (.int v) = .int v → Wk p l e R s m args below meth c G 3 Q 0 0 jN0 (jce G M') pc ls [.int v]) : J X (f_Qu_comparison a0 a1 M) (Wk p l e R s m args below meth c G 3 Q 0 0 jN0 (jce G M) 0 [some (.ref a0), some (.int a1), none] []) := by
  unfold f_Qu_comparison
  refine J_mono (w_aload_n C (jd jdt_Qu_comparison 0 rfl) rfl) ?_
  refine J_mono (w_iload_n C (jd jdt_Qu_comparison 1 rfl) rfl) ?_
  refine J_bind (fun q1 hq1 => ?_)
  refine J_mono (jc_Qu_53 C hp0 (C_Qu_sum l G F 40 a0 a1 hp0 M hq1) rfl (Nat.le_trans (Nat.le_of_ble_eq_true rfl : 49 + 1 ≤ 50) hD) (jd jdt_Qu_comparison 2 rfl)) ?_
  refine J_br (w_if_ne (y := 0) C (jd jdt_Qu_comparison 3 rfl) rfl) (fun h2 => J_pos h2 ?_) (fun h2 => J_neg h2 ?_)
  · refine J_mono (w_iconst_0 C (jd jdt_Qu_comparison 4 rfl)) ?_
    exact J_some (fun hx => hR 0 q1.2 hx _ _ (jd jdt_Qu_comparison 5 rfl) rfl)
  · refine J_mono (w_aload_n C (jd jdt_Qu_comparison 6 rfl) rfl) ?_
    refine J_mono (w_ldcS (i := 17) C rfl (jd jdt_Qu_comparison 7 rfl)) ?_
    refine J_bind (fun q3 hq3 => ?_)
    refine J_mono (jc_Qu_134 C hp0 (C_Qu_signAmong l G F a0 1017 hp0 (jks_of 17) q1.2 hq3) rfl (Nat.le_trans (Nat.le_of_ble_eq_true rfl : 7 + 1 ≤ 50) hD) (jd jdt_Qu_comparison 8 rfl)) ?_
    refine J_mono (w_istore_n (ls' := [some (.ref a0), some (.int a1), some (.int q3)]) C (jd jdt_Qu_comparison 9 rfl) (by decide) rfl rfl) ?_
    refine J_mono (w_iload_n C (jd jdt_Qu_comparison 10 rfl) rfl) ?_
    refine J_mono (w_bipush_32 C (jd jdt_Qu_comparison 11 rfl)) ?_
    refine J_br (w_icmp_ne C (jd jdt_Qu_comparison 12 rfl) rfl) (fun h4 => J_pos h4 ?_) (fun h4 => J_neg h4 ?_)
    · refine J_mono (w_aload_n C (jd jdt_Qu_comparison 13 rfl) rfl) ?_
      refine J_mono (jg_Qu_9 C hp0 (jd jdt_Qu_comparison 14 rfl)) ?_
      refine J_bind (fun q5 hq5 => ?_)
      refine J_mono (jc_Qu_40 C (jkf_6_0 hp0) (C_Re_refuse l G F (jpf a0 0) (jkf_6_0 hp0) q1.2 hq5) rfl (Nat.le_trans (Nat.le_of_ble_eq_true rfl : 2 + 1 ≤ 50) hD) (jd jdt_Qu_comparison 15 rfl)) ?_
      refine J_bind (fun b6 hb6 => ?_)
      obtain rfl := bchk_e hb6
      exact J_some (fun hx => hR _ q5.2 hx _ _ (jd jdt_Qu_comparison 16 rfl) (bchk_n hb6))
    · refine J_mono (w_aload_n C (jd jdt_Qu_comparison 17 rfl) rfl) ?_
      refine J_mono (jg_Qu_9 C hp0 (jd jdt_Qu_comparison 18 rfl)) ?_
      refine J_bind (fun q7 hq7 => ?_)
      refine J_mono (jc_Qu_46 C (jkf_6_0 hp0) (C_Re_step l G F (jpf a0 0) (jkf_6_0 hp0) q1.2 hq7) rfl (Nat.le_trans (Nat.le_of_ble_eq_true rfl : 2 + 1 ≤ 50) hD) (jd jdt_Qu_comparison 19 rfl)) ?_
      refine J_mono (w_aload_n C (jd jdt_Qu_comparison 20 rfl) rfl) ?_
      refine J_mono (w_iload_n C (jd jdt_Qu_comparison 21 rfl) rfl) ?_
      refine J_bind (fun q8 hq8 => ?_)
      refine J_mono (jc_Qu_53 C hp0 (C_Qu_sum l G F 40 a0 a1 hp0 q7 hq8) rfl (Nat.le_trans (Nat.le_of_ble_eq_true rfl : 49 + 1 ≤ 50) hD) (jd jdt_Qu_comparison 22 rfl)) ?_
      refine J_br (w_if_ne (y := 0) C (jd jdt_Qu_comparison 23 rfl) rfl) (fun h9 => J_pos h9 ?_) (fun h9 => J_neg h9 ?_)
      · refine J_mono (w_iconst_0 C (jd jdt_Qu_comparison 24 rfl)) ?_
        exact J_some (fun hx => hR 0 q8.2 hx _ _ (jd jdt_Qu_comparison 25 rfl) rfl)
      · refine J_mono (w_aload_n C (jd jdt_Qu_comparison 26 rfl) rfl) ?_
        refine J_mono (w_iload_n C (jd jdt_Qu_comparison 27 rfl) rfl) ?_
        refine J_bind (fun q10 hq10 => ?_)
        refine J_mono (jc_Qu_95 C hp0 (C_Qu_join l G F a0 q3 hp0 q8.2 hq10) rfl (Nat.le_trans (Nat.le_of_ble_eq_true rfl : 8 + 1 ≤ 50) hD) (jd jdt_Qu_comparison 28 rfl)) ?_
        refine J_mono (w_iconst_1 C (jd jdt_Qu_comparison 29 rfl)) ?_
        exact J_some (fun hx => hR 1 q10 hx _ _ (jd jdt_Qu_comparison 30 rfl) rfl)
end
theorem C_Qu_comparison (l : Launch) (G : JG) (F : jF G = false) (a0 : Nat) (a1 : Int32) (hp0 : jkd a0 6) (M : SM) {q : (Int32 × SM)} (hf : f_Qu_comparison a0 a1 M = some q) : jMet l jy_Qu_comparison jb_Qu_comparison 3 (some FieldType.boolean) 50 0 0 G [.ref a0, .int a1] jN0 (jce G M) (some (.int q.1)) jN0 (jce G q.2) :=
  j_met jo_Qu_comparison (by decide) (Nat.le_of_ble_eq_true rfl) (fun p e s m args below meth c C hr hm => K_Qu_comparison C F (Nat.le_refl _) a0 a1 hp0 M (fun t => t = q) (fun v M' hX pc ls hd hn => by cases hX; exact w_iret C hr hn hd) _ hf rfl)
def lp_Qu_test_12 (gf : (Nat → Int32 → SM → Option (Int32 × SM)) × (Nat → Int32 → SM → Option (Int32 × SM)) × (Nat → Int32 → SM → Option (Int32 × SM)) × (Nat → Int32 → SM → Option (Int32 × SM))) (y0 : Nat) (y1 : Int32) : Nat → Int32 → SM → Option ((SM) ⊕ (Int32 × SM))
  | 0, _, _ => none
  | n + 1, x2, M => if x2 < 1600 then ((f_Re_isWord (jpf y0 0) 1019 M).bind fun q4 => if q4 = 0 then (some (.inl M)) else ((f_Re_step (jpf y0 0) M).bind fun q6 => (gf.2.1 y0 y1 q6).bind fun q7 => if q7.1 = 0 then (some (.inr (0, q7.2))) else ((f_Qu_join y0 124 q7.2).bind fun q9 => lp_Qu_test_12 gf y0 y1 n (x2 + 1) q9))) else (some (.inl M))
def fb_Qu_test (gf : (Nat → Int32 → SM → Option (Int32 × SM)) × (Nat → Int32 → SM → Option (Int32 × SM)) × (Nat → Int32 → SM → Option (Int32 × SM)) × (Nat → Int32 → SM → Option (Int32 × SM))) (a0 : Nat) (a1 : Int32) (M : SM) : Option (Int32 × SM) := (gf.2.1 a0 a1 M).bind fun q1 => if q1.1 = 0 then (some (0, q1.2)) else (jsb (lp_Qu_test_12 gf a0 a1 jfuel 0 q1.2) id fun q10 => some (1, q10))
section
variable {p : Program} {l : Launch} {e : Env} {R : Room} {s : State} {m : MethodId} {args : Array Value} {below : List Frame} {meth : Method} {c : Code} {G : JG} {D : Nat} {Q : State → Prop}
set_option maxHeartbeats 4000000 in
set_option maxRecDepth 20000 in
theorem K_Qu_test (gf : (Nat → Int32 → SM → Option (Int32 × SM)) × (Nat → Int32 → SM → Option (Int32 × SM)) × (Nat → Int32 → SM → Option (Int32 × SM)) × (Nat → Int32 → SM → Option (Int32 × SM))) (C : jCx p R s m args meth c G jb_Qu_test 3 D "SluicePit$Question") (F : jF G = false) {n : Nat} (gh : (∀ (a0 : Nat) (a1 : Int32) (hp0 : jkd a0 6) (M : SM) (q : (Int32 × SM)), (gf.1 a0 a1 M) = some q → jMet l jy_Qu_test jb_Qu_test 3 (some FieldType.boolean) (51 + n) 0 0 G [.ref a0, .int a1] jN0 (jce G M) (some (.int q.1)) jN0 (jce G q.2)) ∧ (∀ (a0 : Nat) (a1 : Int32) (hp0 : jkd a0 6) (M : SM) (q : (Int32 × SM)), (gf.2.1 a0 a1 M) = some q → jMet l jy_Qu_both jb_Qu_both 3 (some FieldType.boolean) (51 + n) 0 0 G [.ref a0, .int a1] jN0 (jce G M) (some (.int q.1)) jN0 (jce G q.2)) ∧ (∀ (a0 : Nat) (a1 : Int32) (hp0 : jkd a0 6) (M : SM) (q : (Int32 × SM)), (gf.2.2.1 a0 a1 M) = some q → jMet l jy_Qu_fact jb_Qu_fact 2 (some FieldType.boolean) (51 + n) 0 0 G [.ref a0, .int a1] jN0 (jce G M) (some (.int q.1)) jN0 (jce G q.2)) ∧ (∀ (a0 : Nat) (a1 : Int32) (hp0 : jkd a0 6) (M : SM) (q : (Int32 × SM)), (gf.2.2.2 a0 a1 M) = some q → jMet l jy_Qu_negation jb_Qu_negation 3 (some FieldType.boolean) (51 + n) 0 0 G [.ref a0, .int a1] jN0 (jce G M) (some (.int q.1)) jN0 (jce G q.2))) (hD : 51 + n + 1 ≤ D) (a0 : Nat) (a1 : Int32) (hp0 : jkd a0 6) (M : SM) (X : (Int32 × SM) → Prop) (hR : ∀ v M', X (v, M') → ∀ (pc : Nat) (ls : List (Option Value)), decode jb_Qu_test pc = .ok (.ireturn, 1) → narrow FieldType.boolean (.int v) = .int v → Wk p l e R s m args below meth c G 3 Q 0 0 jN0 (jce G M') pc ls [.int v]) : J X (fb_Qu_test gf a0 a1 M) (Wk p l e R s m args below meth c G 3 Q 0 0 jN0 (jce G M) 0 [some (.ref a0), some (.int a1), none] []) := by
  unfold fb_Qu_test
  refine J_mono (w_aload_n C (jd jdt_Qu_test 0 rfl) rfl) ?_
  refine J_mono (w_iload_n C (jd jdt_Qu_test 1 rfl) rfl) ?_
  refine J_bind (fun q1 hq1 => ?_)
  refine J_mono (jc_Qu_86 C hp0 (gh.2.1 a0 a1 hp0 M _ hq1) rfl (by omega) (jd jdt_Qu_test 2 rfl)) ?_
  refine J_br (w_if_ne (y := 0) C (jd jdt_Qu_test 3 rfl) rfl) (fun h2 => J_pos h2 ?_) (fun h2 => J_neg h2 ?_)
  · refine J_mono (w_iconst_0 C (jd jdt_Qu_test 4 rfl)) ?_
    exact J_some (fun hx => hR 0 q1.2 hx _ _ (jd jdt_Qu_test 5 rfl) rfl)
  · refine J_mono (w_iconst_0 C (jd jdt_Qu_test 6 rfl)) ?_
    refine J_mono (w_istore_n (ls' := [some (.ref a0), some (.int a1), some (.int 0)]) C (jd jdt_Qu_test 7 rfl) (by decide) rfl rfl) ?_
    have L12 : ∀ (y0 : Nat) (y1 : Int32) (hy0 : jkd y0 6) (n : Nat) (x2 : Int32) (M : SM), J (Sum.elim (fun (q10 : SM) => Wk p l e R s m args below meth c G 3 Q 0 0 jN0 (jce G q10) 60 [none, none, none] []) X) (lp_Qu_test_12 gf y0 y1 n x2 M) (Wk p l e R s m args below meth c G 3 Q 0 0 jN0 (jce G M) 12 [some (.ref y0), some (.int y1), some (.int x2)] []) := by
      intro y0 y1 hy0 n
      induction n with
      | zero => intro x2 M; exact J_none
      | succ n ih =>
        intro x2 M
        unfold lp_Qu_test_12
        refine J_mono (w_iload_n C (jd jdt_Qu_test 8 rfl) rfl) ?_
        refine J_mono (w_sipush_1600 C (jd jdt_Qu_test 9 rfl)) ?_
        refine J_br (w_icmp_ge C (jd jdt_Qu_test 10 rfl) rfl) (fun h3 => J_pos h3 ?_) (fun h3 => J_neg h3 ?_)
        · refine J_mono (w_aload_n C (jd jdt_Qu_test 11 rfl) rfl) ?_
          refine J_mono (jg_Qu_9 C hy0 (jd jdt_Qu_test 12 rfl)) ?_
          refine J_mono (w_ldcS (i := 19) C rfl (jd jdt_Qu_test 13 rfl)) ?_
          refine J_bind (fun q4 hq4 => ?_)
          refine J_mono (jc_Qu_91 C (jkf_6_0 hy0) (C_Re_isWord l G F (jpf y0 0) 1019 (jkf_6_0 hy0) (jks_of 19) M hq4) rfl (by omega) (jd jdt_Qu_test 14 rfl)) ?_
          refine J_br (w_if_eq (y := 0) C (jd jdt_Qu_test 15 rfl) rfl) (fun h5 => J_pos h5 ?_) (fun h5 => J_neg h5 ?_)
          · exact J_some (fun hx => Wk_sb hx trivial)
          · refine J_mono (w_aload_n C (jd jdt_Qu_test 16 rfl) rfl) ?_
            refine J_mono (jg_Qu_9 C hy0 (jd jdt_Qu_test 17 rfl)) ?_
            refine J_bind (fun q6 hq6 => ?_)
            refine J_mono (jc_Qu_46 C (jkf_6_0 hy0) (C_Re_step l G F (jpf y0 0) (jkf_6_0 hy0) M hq6) rfl (by omega) (jd jdt_Qu_test 18 rfl)) ?_
            refine J_mono (w_aload_n C (jd jdt_Qu_test 19 rfl) rfl) ?_
            refine J_mono (w_iload_n C (jd jdt_Qu_test 20 rfl) rfl) ?_
            refine J_bind (fun q7 hq7 => ?_)
            refine J_mono (jc_Qu_86 C hy0 (gh.2.1 y0 y1 hy0 q6 _ hq7) rfl (by omega) (jd jdt_Qu_test 21 rfl)) ?_
            refine J_br (w_if_ne (y := 0) C (jd jdt_Qu_test 22 rfl) rfl) (fun h8 => J_pos h8 ?_) (fun h8 => J_neg h8 ?_)
            · refine J_mono (w_iconst_0 C (jd jdt_Qu_test 23 rfl)) ?_
              exact J_some (fun hx => hR 0 q7.2 hx _ _ (jd jdt_Qu_test 24 rfl) rfl)
            · refine J_mono (w_aload_n C (jd jdt_Qu_test 25 rfl) rfl) ?_
              refine J_mono (w_bipush_124 C (jd jdt_Qu_test 26 rfl)) ?_
              refine J_bind (fun q9 hq9 => ?_)
              refine J_mono (jc_Qu_95 C hy0 (C_Qu_join l G F y0 124 hy0 q7.2 hq9) rfl (by omega) (jd jdt_Qu_test 27 rfl)) ?_
              refine J_mono (w_iinc (v := x2 + 1) (ls' := [some (.ref y0), some (.int y1), some (.int (x2 + 1))]) C (jd jdt_Qu_test 28 rfl) rfl rfl (by decide) rfl rfl) ?_
              refine J_mono (w_goto C (jd jdt_Qu_test 29 rfl) rfl) ?_
              exact J_sub (ih (x2 + 1) q9) ⟨rfl, rfl, rfl, trivial⟩
        · exact J_some (fun hx => Wk_sb hx trivial)
    refine J_sb (fun (q10 : SM) => Wk p l e R s m args below meth c G 3 Q 0 0 jN0 (jce G q10) 60 [none, none, none] []) (J_sub (L12 a0 a1 hp0 jfuel 0 q1.2) ⟨rfl, rfl, rfl, trivial⟩) (fun q10 => ?_)
    refine J_mono (w_iconst_1 C (jd jdt_Qu_test 30 rfl)) ?_
    exact J_some (fun hx => hR 1 q10 hx _ _ (jd jdt_Qu_test 31 rfl) rfl)
end
def lp_Qu_both_12 (gf : (Nat → Int32 → SM → Option (Int32 × SM)) × (Nat → Int32 → SM → Option (Int32 × SM)) × (Nat → Int32 → SM → Option (Int32 × SM)) × (Nat → Int32 → SM → Option (Int32 × SM))) (y0 : Nat) (y1 : Int32) : Nat → Int32 → SM → Option ((SM) ⊕ (Int32 × SM))
  | 0, _, _ => none
  | n + 1, x2, M => if x2 < 1600 then ((f_Re_isWord (jpf y0 0) 1018 M).bind fun q4 => if q4 = 0 then (some (.inl M)) else ((f_Re_step (jpf y0 0) M).bind fun q6 => (gf.2.2.1 y0 y1 q6).bind fun q7 => if q7.1 = 0 then (some (.inr (0, q7.2))) else ((f_Qu_join y0 38 q7.2).bind fun q9 => lp_Qu_both_12 gf y0 y1 n (x2 + 1) q9))) else (some (.inl M))
def fb_Qu_both (gf : (Nat → Int32 → SM → Option (Int32 × SM)) × (Nat → Int32 → SM → Option (Int32 × SM)) × (Nat → Int32 → SM → Option (Int32 × SM)) × (Nat → Int32 → SM → Option (Int32 × SM))) (a0 : Nat) (a1 : Int32) (M : SM) : Option (Int32 × SM) := (gf.2.2.1 a0 a1 M).bind fun q1 => if q1.1 = 0 then (some (0, q1.2)) else (jsb (lp_Qu_both_12 gf a0 a1 jfuel 0 q1.2) id fun q10 => some (1, q10))
section
variable {p : Program} {l : Launch} {e : Env} {R : Room} {s : State} {m : MethodId} {args : Array Value} {below : List Frame} {meth : Method} {c : Code} {G : JG} {D : Nat} {Q : State → Prop}
set_option maxHeartbeats 4000000 in
set_option maxRecDepth 20000 in
theorem K_Qu_both (gf : (Nat → Int32 → SM → Option (Int32 × SM)) × (Nat → Int32 → SM → Option (Int32 × SM)) × (Nat → Int32 → SM → Option (Int32 × SM)) × (Nat → Int32 → SM → Option (Int32 × SM))) (C : jCx p R s m args meth c G jb_Qu_both 3 D "SluicePit$Question") (F : jF G = false) {n : Nat} (gh : (∀ (a0 : Nat) (a1 : Int32) (hp0 : jkd a0 6) (M : SM) (q : (Int32 × SM)), (gf.1 a0 a1 M) = some q → jMet l jy_Qu_test jb_Qu_test 3 (some FieldType.boolean) (51 + n) 0 0 G [.ref a0, .int a1] jN0 (jce G M) (some (.int q.1)) jN0 (jce G q.2)) ∧ (∀ (a0 : Nat) (a1 : Int32) (hp0 : jkd a0 6) (M : SM) (q : (Int32 × SM)), (gf.2.1 a0 a1 M) = some q → jMet l jy_Qu_both jb_Qu_both 3 (some FieldType.boolean) (51 + n) 0 0 G [.ref a0, .int a1] jN0 (jce G M) (some (.int q.1)) jN0 (jce G q.2)) ∧ (∀ (a0 : Nat) (a1 : Int32) (hp0 : jkd a0 6) (M : SM) (q : (Int32 × SM)), (gf.2.2.1 a0 a1 M) = some q → jMet l jy_Qu_fact jb_Qu_fact 2 (some FieldType.boolean) (51 + n) 0 0 G [.ref a0, .int a1] jN0 (jce G M) (some (.int q.1)) jN0 (jce G q.2)) ∧ (∀ (a0 : Nat) (a1 : Int32) (hp0 : jkd a0 6) (M : SM) (q : (Int32 × SM)), (gf.2.2.2 a0 a1 M) = some q → jMet l jy_Qu_negation jb_Qu_negation 3 (some FieldType.boolean) (51 + n) 0 0 G [.ref a0, .int a1] jN0 (jce G M) (some (.int q.1)) jN0 (jce G q.2))) (hD : 51 + n + 1 ≤ D) (a0 : Nat) (a1 : Int32) (hp0 : jkd a0 6) (M : SM) (X : (Int32 × SM) → Prop) (hR : ∀ v M', X (v, M') → ∀ (pc : Nat) (ls : List (Option Value)), decode jb_Qu_both pc = .ok (.ireturn, 1) → narrow FieldType.boolean (.int v) = .int v → Wk p l e R s m args below meth c G 3 Q 0 0 jN0 (jce G M') pc ls [.int v]) : J X (fb_Qu_both gf a0 a1 M) (Wk p l e R s m args below meth c G 3 Q 0 0 jN0 (jce G M) 0 [some (.ref a0), some (.int a1), none] []) := by
  unfold fb_Qu_both
  refine J_mono (w_aload_n C (jd jdt_Qu_both 0 rfl) rfl) ?_
  refine J_mono (w_iload_n C (jd jdt_Qu_both 1 rfl) rfl) ?_
  refine J_bind (fun q1 hq1 => ?_)
  refine J_mono (jc_Qu_99 C hp0 (gh.2.2.1 a0 a1 hp0 M _ hq1) rfl (by omega) (jd jdt_Qu_both 2 rfl)) ?_
  refine J_br (w_if_ne (y := 0) C (jd jdt_Qu_both 3 rfl) rfl) (fun h2 => J_pos h2 ?_) (fun h2 => J_neg h2 ?_)
  · refine J_mono (w_iconst_0 C (jd jdt_Qu_both 4 rfl)) ?_
    exact J_some (fun hx => hR 0 q1.2 hx _ _ (jd jdt_Qu_both 5 rfl) rfl)
  · refine J_mono (w_iconst_0 C (jd jdt_Qu_both 6 rfl)) ?_
    refine J_mono (w_istore_n (ls' := [some (.ref a0), some (.int a1), some (.int 0)]) C (jd jdt_Qu_both 7 rfl) (by decide) rfl rfl) ?_
    have L12 : ∀ (y0 : Nat) (y1 : Int32) (hy0 : jkd y0 6) (n : Nat) (x2 : Int32) (M : SM), J (Sum.elim (fun (q10 : SM) => Wk p l e R s m args below meth c G 3 Q 0 0 jN0 (jce G q10) 60 [none, none, none] []) X) (lp_Qu_both_12 gf y0 y1 n x2 M) (Wk p l e R s m args below meth c G 3 Q 0 0 jN0 (jce G M) 12 [some (.ref y0), some (.int y1), some (.int x2)] []) := by
      intro y0 y1 hy0 n
      induction n with
      | zero => intro x2 M; exact J_none
      | succ n ih =>
        intro x2 M
        unfold lp_Qu_both_12
        refine J_mono (w_iload_n C (jd jdt_Qu_both 8 rfl) rfl) ?_
        refine J_mono (w_sipush_1600 C (jd jdt_Qu_both 9 rfl)) ?_
        refine J_br (w_icmp_ge C (jd jdt_Qu_both 10 rfl) rfl) (fun h3 => J_pos h3 ?_) (fun h3 => J_neg h3 ?_)
        · refine J_mono (w_aload_n C (jd jdt_Qu_both 11 rfl) rfl) ?_
          refine J_mono (jg_Qu_9 C hy0 (jd jdt_Qu_both 12 rfl)) ?_
          refine J_mono (w_ldcS (i := 18) C rfl (jd jdt_Qu_both 13 rfl)) ?_
          refine J_bind (fun q4 hq4 => ?_)
          refine J_mono (jc_Qu_91 C (jkf_6_0 hy0) (C_Re_isWord l G F (jpf y0 0) 1018 (jkf_6_0 hy0) (jks_of 18) M hq4) rfl (by omega) (jd jdt_Qu_both 14 rfl)) ?_
          refine J_br (w_if_eq (y := 0) C (jd jdt_Qu_both 15 rfl) rfl) (fun h5 => J_pos h5 ?_) (fun h5 => J_neg h5 ?_)
          · exact J_some (fun hx => Wk_sb hx trivial)
          · refine J_mono (w_aload_n C (jd jdt_Qu_both 16 rfl) rfl) ?_
            refine J_mono (jg_Qu_9 C hy0 (jd jdt_Qu_both 17 rfl)) ?_
            refine J_bind (fun q6 hq6 => ?_)
            refine J_mono (jc_Qu_46 C (jkf_6_0 hy0) (C_Re_step l G F (jpf y0 0) (jkf_6_0 hy0) M hq6) rfl (by omega) (jd jdt_Qu_both 18 rfl)) ?_
            refine J_mono (w_aload_n C (jd jdt_Qu_both 19 rfl) rfl) ?_
            refine J_mono (w_iload_n C (jd jdt_Qu_both 20 rfl) rfl) ?_
            refine J_bind (fun q7 hq7 => ?_)
            refine J_mono (jc_Qu_99 C hy0 (gh.2.2.1 y0 y1 hy0 q6 _ hq7) rfl (by omega) (jd jdt_Qu_both 21 rfl)) ?_
            refine J_br (w_if_ne (y := 0) C (jd jdt_Qu_both 22 rfl) rfl) (fun h8 => J_pos h8 ?_) (fun h8 => J_neg h8 ?_)
            · refine J_mono (w_iconst_0 C (jd jdt_Qu_both 23 rfl)) ?_
              exact J_some (fun hx => hR 0 q7.2 hx _ _ (jd jdt_Qu_both 24 rfl) rfl)
            · refine J_mono (w_aload_n C (jd jdt_Qu_both 25 rfl) rfl) ?_
              refine J_mono (w_bipush_38 C (jd jdt_Qu_both 26 rfl)) ?_
              refine J_bind (fun q9 hq9 => ?_)
              refine J_mono (jc_Qu_95 C hy0 (C_Qu_join l G F y0 38 hy0 q7.2 hq9) rfl (by omega) (jd jdt_Qu_both 27 rfl)) ?_
              refine J_mono (w_iinc (v := x2 + 1) (ls' := [some (.ref y0), some (.int y1), some (.int (x2 + 1))]) C (jd jdt_Qu_both 28 rfl) rfl rfl (by decide) rfl rfl) ?_
              refine J_mono (w_goto C (jd jdt_Qu_both 29 rfl) rfl) ?_
              exact J_sub (ih (x2 + 1) q9) ⟨rfl, rfl, rfl, trivial⟩
        · exact J_some (fun hx => Wk_sb hx trivial)
    refine J_sb (fun (q10 : SM) => Wk p l e R s m args below meth c G 3 Q 0 0 jN0 (jce G q10) 60 [none, none, none] []) (J_sub (L12 a0 a1 hp0 jfuel 0 q1.2) ⟨rfl, rfl, rfl, trivial⟩) (fun q10 => ?_)
    refine J_mono (w_iconst_1 C (jd jdt_Qu_both 30 rfl)) ?_
    exact J_some (fun hx => hR 1 q10 hx _ _ (jd jdt_Qu_both 31 rfl) rfl)
end
def fb_Qu_fact (gf : (Nat → Int32 → SM → Option (Int32 × SM)) × (Nat → Int32 → SM → Option (Int32 × SM)) × (Nat → Int32 → SM → Option (Int32 × SM)) × (Nat → Int32 → SM → Option (Int32 × SM))) (a0 : Nat) (a1 : Int32) (M : SM) : Option (Int32 × SM) := (f_Re_isWord (jpf a0 0) 1012 M).bind fun q1 => if q1 = 0 then ((f_Re_isSign (jpf a0 0) 91 M).bind fun q3 => if q3 = 0 then ((f_Re_isWord (jpf a0 0) 1013 M).bind fun q5 => if q5 = 0 then ((f_Qu_comparison a0 a1 M).bind fun q7 => (bchk q7.1).bind fun b8 => some (b8, q7.2)) else ((f_Re_step (jpf a0 0) M).bind fun q9 => (f_Qu_addNumber a0 1 q9).bind fun q10 => some (1, q10))) else ((f_Qu_mayOpen a0 a1 M).bind fun q11 => if q11.1 = 0 then (some (0, q11.2)) else ((f_Re_step (jpf a0 0) q11.2).bind fun q13 => (gf.1 a0 (a1 + 1) q13).bind fun q14 => if q14.1 = 0 then (some (0, q14.2)) else ((f_Re_takeSign (jpf a0 0) 93 q14.2).bind fun q16 => if q16.1 = 0 then (some (0, q16.2)) else (some (1, q16.2)))))) else ((f_Qu_mayOpen a0 a1 M).bind fun q18 => if q18.1 = 0 then (some (0, q18.2)) else ((gf.2.2.2 a0 (a1 + 1) q18.2).bind fun q20 => if q20.1 = 0 then (some (0, q20.2)) else (some (1, q20.2))))
section
variable {p : Program} {l : Launch} {e : Env} {R : Room} {s : State} {m : MethodId} {args : Array Value} {below : List Frame} {meth : Method} {c : Code} {G : JG} {D : Nat} {Q : State → Prop}
set_option maxHeartbeats 4000000 in
set_option maxRecDepth 20000 in
theorem K_Qu_fact (gf : (Nat → Int32 → SM → Option (Int32 × SM)) × (Nat → Int32 → SM → Option (Int32 × SM)) × (Nat → Int32 → SM → Option (Int32 × SM)) × (Nat → Int32 → SM → Option (Int32 × SM))) (C : jCx p R s m args meth c G jb_Qu_fact 2 D "SluicePit$Question") (F : jF G = false) {n : Nat} (gh : (∀ (a0 : Nat) (a1 : Int32) (hp0 : jkd a0 6) (M : SM) (q : (Int32 × SM)), (gf.1 a0 a1 M) = some q → jMet l jy_Qu_test jb_Qu_test 3 (some FieldType.boolean) (51 + n) 0 0 G [.ref a0, .int a1] jN0 (jce G M) (some (.int q.1)) jN0 (jce G q.2)) ∧ (∀ (a0 : Nat) (a1 : Int32) (hp0 : jkd a0 6) (M : SM) (q : (Int32 × SM)), (gf.2.1 a0 a1 M) = some q → jMet l jy_Qu_both jb_Qu_both 3 (some FieldType.boolean) (51 + n) 0 0 G [.ref a0, .int a1] jN0 (jce G M) (some (.int q.1)) jN0 (jce G q.2)) ∧ (∀ (a0 : Nat) (a1 : Int32) (hp0 : jkd a0 6) (M : SM) (q : (Int32 × SM)), (gf.2.2.1 a0 a1 M) = some q → jMet l jy_Qu_fact jb_Qu_fact 2 (some FieldType.boolean) (51 + n) 0 0 G [.ref a0, .int a1] jN0 (jce G M) (some (.int q.1)) jN0 (jce G q.2)) ∧ (∀ (a0 : Nat) (a1 : Int32) (hp0 : jkd a0 6) (M : SM) (q : (Int32 × SM)), (gf.2.2.2 a0 a1 M) = some q → jMet l jy_Qu_negation jb_Qu_negation 3 (some FieldType.boolean) (51 + n) 0 0 G [.ref a0, .int a1] jN0 (jce G M) (some (.int q.1)) jN0 (jce G q.2))) (hD : 51 + n + 1 ≤ D) (a0 : Nat) (a1 : Int32) (hp0 : jkd a0 6) (M : SM) (X : (Int32 × SM) → Prop) (hR : ∀ v M', X (v, M') → ∀ (pc : Nat) (ls : List (Option Value)), decode jb_Qu_fact pc = .ok (.ireturn, 1) → narrow FieldType.boolean (.int v) = .int v → Wk p l e R s m args below meth c G 2 Q 0 0 jN0 (jce G M') pc ls [.int v]) : J X (fb_Qu_fact gf a0 a1 M) (Wk p l e R s m args below meth c G 2 Q 0 0 jN0 (jce G M) 0 [some (.ref a0), some (.int a1)] []) := by
  unfold fb_Qu_fact
  refine J_mono (w_aload_n C (jd jdt_Qu_fact 0 rfl) rfl) ?_
  refine J_mono (jg_Qu_9 C hp0 (jd jdt_Qu_fact 1 rfl)) ?_
  refine J_mono (w_ldcS (i := 12) C rfl (jd jdt_Qu_fact 2 rfl)) ?_
  refine J_bind (fun q1 hq1 => ?_)
  refine J_mono (jc_Qu_91 C (jkf_6_0 hp0) (C_Re_isWord l G F (jpf a0 0) 1012 (jkf_6_0 hp0) (jks_of 12) M hq1) rfl (by omega) (jd jdt_Qu_fact 3 rfl)) ?_
  refine J_br (w_if_eq (y := 0) C (jd jdt_Qu_fact 4 rfl) rfl) (fun h2 => J_pos h2 ?_) (fun h2 => J_neg h2 ?_)
  · refine J_mono (w_aload_n C (jd jdt_Qu_fact 19 rfl) rfl) ?_
    refine J_mono (jg_Qu_9 C hp0 (jd jdt_Qu_fact 20 rfl)) ?_
    refine J_mono (w_bipush_91 C (jd jdt_Qu_fact 21 rfl)) ?_
    refine J_bind (fun q3 hq3 => ?_)
    refine J_mono (jc_Qu_112 C (jkf_6_0 hp0) (C_Re_isSign l G F (jpf a0 0) 91 (jkf_6_0 hp0) M hq3) rfl (by omega) (jd jdt_Qu_fact 22 rfl)) ?_
    refine J_br (w_if_eq (y := 0) C (jd jdt_Qu_fact 23 rfl) rfl) (fun h4 => J_pos h4 ?_) (fun h4 => J_neg h4 ?_)
    · refine J_mono (w_aload_n C (jd jdt_Qu_fact 48 rfl) rfl) ?_
      refine J_mono (jg_Qu_9 C hp0 (jd jdt_Qu_fact 49 rfl)) ?_
      refine J_mono (w_ldcS (i := 13) C rfl (jd jdt_Qu_fact 50 rfl)) ?_
      refine J_bind (fun q5 hq5 => ?_)
      refine J_mono (jc_Qu_91 C (jkf_6_0 hp0) (C_Re_isWord l G F (jpf a0 0) 1013 (jkf_6_0 hp0) (jks_of 13) M hq5) rfl (by omega) (jd jdt_Qu_fact 51 rfl)) ?_
      refine J_br (w_if_eq (y := 0) C (jd jdt_Qu_fact 52 rfl) rfl) (fun h6 => J_pos h6 ?_) (fun h6 => J_neg h6 ?_)
      · refine J_mono (w_aload_n C (jd jdt_Qu_fact 61 rfl) rfl) ?_
        refine J_mono (w_iload_n C (jd jdt_Qu_fact 62 rfl) rfl) ?_
        refine J_bind (fun q7 hq7 => ?_)
        refine J_mono (jc_Qu_125 C hp0 (C_Qu_comparison l G F a0 a1 hp0 M hq7) rfl (by omega) (jd jdt_Qu_fact 63 rfl)) ?_
        refine J_bind (fun b8 hb8 => ?_)
        obtain rfl := bchk_e hb8
        exact J_some (fun hx => hR _ q7.2 hx _ _ (jd jdt_Qu_fact 64 rfl) (bchk_n hb8))
      · refine J_mono (w_aload_n C (jd jdt_Qu_fact 53 rfl) rfl) ?_
        refine J_mono (jg_Qu_9 C hp0 (jd jdt_Qu_fact 54 rfl)) ?_
        refine J_bind (fun q9 hq9 => ?_)
        refine J_mono (jc_Qu_46 C (jkf_6_0 hp0) (C_Re_step l G F (jpf a0 0) (jkf_6_0 hp0) M hq9) rfl (by omega) (jd jdt_Qu_fact 55 rfl)) ?_
        refine J_mono (w_aload_n C (jd jdt_Qu_fact 56 rfl) rfl) ?_
        refine J_mono (w_iconst_1 C (jd jdt_Qu_fact 57 rfl)) ?_
        refine J_bind (fun q10 hq10 => ?_)
        refine J_mono (jc_Qu_121 C hp0 (C_Qu_addNumber l G F a0 1 hp0 q9 hq10) rfl (by omega) (jd jdt_Qu_fact 58 rfl)) ?_
        refine J_mono (w_iconst_1 C (jd jdt_Qu_fact 59 rfl)) ?_
        exact J_some (fun hx => hR 1 q10 hx _ _ (jd jdt_Qu_fact 60 rfl) rfl)
    · refine J_mono (w_aload_n C (jd jdt_Qu_fact 24 rfl) rfl) ?_
      refine J_mono (w_iload_n C (jd jdt_Qu_fact 25 rfl) rfl) ?_
      refine J_bind (fun q11 hq11 => ?_)
      refine J_mono (jc_Qu_106 C hp0 (C_Qu_mayOpen l G F a0 a1 hp0 M hq11) rfl (by omega) (jd jdt_Qu_fact 26 rfl)) ?_
      refine J_br (w_if_ne (y := 0) C (jd jdt_Qu_fact 27 rfl) rfl) (fun h12 => J_pos h12 ?_) (fun h12 => J_neg h12 ?_)
      · refine J_mono (w_iconst_0 C (jd jdt_Qu_fact 28 rfl)) ?_
        exact J_some (fun hx => hR 0 q11.2 hx _ _ (jd jdt_Qu_fact 29 rfl) rfl)
      · refine J_mono (w_aload_n C (jd jdt_Qu_fact 30 rfl) rfl) ?_
        refine J_mono (jg_Qu_9 C hp0 (jd jdt_Qu_fact 31 rfl)) ?_
        refine J_bind (fun q13 hq13 => ?_)
        refine J_mono (jc_Qu_46 C (jkf_6_0 hp0) (C_Re_step l G F (jpf a0 0) (jkf_6_0 hp0) q11.2 hq13) rfl (by omega) (jd jdt_Qu_fact 32 rfl)) ?_
        refine J_mono (w_aload_n C (jd jdt_Qu_fact 33 rfl) rfl) ?_
        refine J_mono (w_iload_n C (jd jdt_Qu_fact 34 rfl) rfl) ?_
        refine J_mono (w_iconst_1 C (jd jdt_Qu_fact 35 rfl)) ?_
        refine J_mono (w_iadd C (jd jdt_Qu_fact 36 rfl)) ?_
        refine J_bind (fun q14 hq14 => ?_)
        refine J_mono (jc_Qu_49 C hp0 (gh.1 a0 (a1 + 1) hp0 q13 _ hq14) rfl (by omega) (jd jdt_Qu_fact 37 rfl)) ?_
        refine J_br (w_if_eq (y := 0) C (jd jdt_Qu_fact 38 rfl) rfl) (fun h15 => J_pos h15 ?_) (fun h15 => J_neg h15 ?_)
        · refine J_mono (w_iconst_0 C (jd jdt_Qu_fact 46 rfl)) ?_
          exact J_some (fun hx => hR 0 q14.2 hx _ _ (jd jdt_Qu_fact 47 rfl) rfl)
        · refine J_mono (w_aload_n C (jd jdt_Qu_fact 39 rfl) rfl) ?_
          refine J_mono (jg_Qu_9 C hp0 (jd jdt_Qu_fact 40 rfl)) ?_
          refine J_mono (w_bipush_93 C (jd jdt_Qu_fact 41 rfl)) ?_
          refine J_bind (fun q16 hq16 => ?_)
          refine J_mono (jc_Qu_116 C (jkf_6_0 hp0) (C_Re_takeSign l G F (jpf a0 0) 93 (jkf_6_0 hp0) q14.2 hq16) rfl (by omega) (jd jdt_Qu_fact 42 rfl)) ?_
          refine J_br (w_if_eq (y := 0) C (jd jdt_Qu_fact 43 rfl) rfl) (fun h17 => J_pos h17 ?_) (fun h17 => J_neg h17 ?_)
          · refine J_mono (w_iconst_0 C (jd jdt_Qu_fact 46 rfl)) ?_
            exact J_some (fun hx => hR 0 q16.2 hx _ _ (jd jdt_Qu_fact 47 rfl) rfl)
          · refine J_mono (w_iconst_1 C (jd jdt_Qu_fact 44 rfl)) ?_
            refine J_mono (w_goto C (jd jdt_Qu_fact 45 rfl) rfl) ?_
            exact J_some (fun hx => hR 1 q16.2 hx _ _ (jd jdt_Qu_fact 47 rfl) rfl)
  · refine J_mono (w_aload_n C (jd jdt_Qu_fact 5 rfl) rfl) ?_
    refine J_mono (w_iload_n C (jd jdt_Qu_fact 6 rfl) rfl) ?_
    refine J_bind (fun q18 hq18 => ?_)
    refine J_mono (jc_Qu_106 C hp0 (C_Qu_mayOpen l G F a0 a1 hp0 M hq18) rfl (by omega) (jd jdt_Qu_fact 7 rfl)) ?_
    refine J_br (w_if_eq (y := 0) C (jd jdt_Qu_fact 8 rfl) rfl) (fun h19 => J_pos h19 ?_) (fun h19 => J_neg h19 ?_)
    · refine J_mono (w_iconst_0 C (jd jdt_Qu_fact 17 rfl)) ?_
      exact J_some (fun hx => hR 0 q18.2 hx _ _ (jd jdt_Qu_fact 18 rfl) rfl)
    · refine J_mono (w_aload_n C (jd jdt_Qu_fact 9 rfl) rfl) ?_
      refine J_mono (w_iload_n C (jd jdt_Qu_fact 10 rfl) rfl) ?_
      refine J_mono (w_iconst_1 C (jd jdt_Qu_fact 11 rfl)) ?_
      refine J_mono (w_iadd C (jd jdt_Qu_fact 12 rfl)) ?_
      refine J_bind (fun q20 hq20 => ?_)
      refine J_mono (jc_Qu_109 C hp0 (gh.2.2.2 a0 (a1 + 1) hp0 q18.2 _ hq20) rfl (by omega) (jd jdt_Qu_fact 13 rfl)) ?_
      refine J_br (w_if_eq (y := 0) C (jd jdt_Qu_fact 14 rfl) rfl) (fun h21 => J_pos h21 ?_) (fun h21 => J_neg h21 ?_)
      · refine J_mono (w_iconst_0 C (jd jdt_Qu_fact 17 rfl)) ?_
        exact J_some (fun hx => hR 0 q20.2 hx _ _ (jd jdt_Qu_fact 18 rfl) rfl)
      · refine J_mono (w_iconst_1 C (jd jdt_Qu_fact 15 rfl)) ?_
        refine J_mono (w_goto C (jd jdt_Qu_fact 16 rfl) rfl) ?_
        exact J_some (fun hx => hR 1 q20.2 hx _ _ (jd jdt_Qu_fact 18 rfl) rfl)
end
def lp_Qu_negation_19 (gf : (Nat → Int32 → SM → Option (Int32 × SM)) × (Nat → Int32 → SM → Option (Int32 × SM)) × (Nat → Int32 → SM → Option (Int32 × SM)) × (Nat → Int32 → SM → Option (Int32 × SM))) (y0 : Nat) : Nat → Int32 → SM → Option (SM)
  | 0, _, _ => none
  | n + 1, x2, M => if 60 < x2 then (some M) else ((f_Sp_cellOf (jpf y0 2) ((M.1 y0 3) - 1) x2 M).bind fun q5 => (if q5 = 0 then (some 1) else (some 0) : Option (Int32)).bind fun q6 => (f_Sp_putCell (jpf y0 2) ((M.1 y0 3) - 1) x2 q6 M).bind fun q8 => lp_Qu_negation_19 gf y0 n (x2 + 1) q8)
def fb_Qu_negation (gf : (Nat → Int32 → SM → Option (Int32 × SM)) × (Nat → Int32 → SM → Option (Int32 × SM)) × (Nat → Int32 → SM → Option (Int32 × SM)) × (Nat → Int32 → SM → Option (Int32 × SM))) (a0 : Nat) (a1 : Int32) (M : SM) : Option (Int32 × SM) := (f_Re_step (jpf a0 0) M).bind fun q1 => (gf.2.2.1 a0 a1 q1).bind fun q2 => if q2.1 = 0 then (some (0, q2.2)) else ((lp_Qu_negation_19 gf a0 jfuel 0 q2.2).bind fun q9 => some (1, q9))
section
variable {p : Program} {l : Launch} {e : Env} {R : Room} {s : State} {m : MethodId} {args : Array Value} {below : List Frame} {meth : Method} {c : Code} {G : JG} {D : Nat} {Q : State → Prop}
set_option maxHeartbeats 4000000 in
set_option maxRecDepth 20000 in
theorem K_Qu_negation (gf : (Nat → Int32 → SM → Option (Int32 × SM)) × (Nat → Int32 → SM → Option (Int32 × SM)) × (Nat → Int32 → SM → Option (Int32 × SM)) × (Nat → Int32 → SM → Option (Int32 × SM))) (C : jCx p R s m args meth c G jb_Qu_negation 3 D "SluicePit$Question") (F : jF G = false) {n : Nat} (gh : (∀ (a0 : Nat) (a1 : Int32) (hp0 : jkd a0 6) (M : SM) (q : (Int32 × SM)), (gf.1 a0 a1 M) = some q → jMet l jy_Qu_test jb_Qu_test 3 (some FieldType.boolean) (51 + n) 0 0 G [.ref a0, .int a1] jN0 (jce G M) (some (.int q.1)) jN0 (jce G q.2)) ∧ (∀ (a0 : Nat) (a1 : Int32) (hp0 : jkd a0 6) (M : SM) (q : (Int32 × SM)), (gf.2.1 a0 a1 M) = some q → jMet l jy_Qu_both jb_Qu_both 3 (some FieldType.boolean) (51 + n) 0 0 G [.ref a0, .int a1] jN0 (jce G M) (some (.int q.1)) jN0 (jce G q.2)) ∧ (∀ (a0 : Nat) (a1 : Int32) (hp0 : jkd a0 6) (M : SM) (q : (Int32 × SM)), (gf.2.2.1 a0 a1 M) = some q → jMet l jy_Qu_fact jb_Qu_fact 2 (some FieldType.boolean) (51 + n) 0 0 G [.ref a0, .int a1] jN0 (jce G M) (some (.int q.1)) jN0 (jce G q.2)) ∧ (∀ (a0 : Nat) (a1 : Int32) (hp0 : jkd a0 6) (M : SM) (q : (Int32 × SM)), (gf.2.2.2 a0 a1 M) = some q → jMet l jy_Qu_negation jb_Qu_negation 3 (some FieldType.boolean) (51 + n) 0 0 G [.ref a0, .int a1] jN0 (jce G M) (some (.int q.1)) jN0 (jce G q.2))) (hD : 51 + n + 1 ≤ D) (a0 : Nat) (a1 : Int32) (hp0 : jkd a0 6) (M : SM) (X : (Int32 × SM) → Prop) (hR : ∀ v M', X (v, M') → ∀ (pc : Nat) (ls : List (Option Value)), decode jb_Qu_negation pc = .ok (.ireturn, 1) → narrow FieldType.boolean (.int v) = .int v → Wk p l e R s m args below meth c G 3 Q 0 0 jN0 (jce G M') pc ls [.int v]) : J X (fb_Qu_negation gf a0 a1 M) (Wk p l e R s m args below meth c G 3 Q 0 0 jN0 (jce G M) 0 [some (.ref a0), some (.int a1), none] []) := by
  unfold fb_Qu_negation
  refine J_mono (w_aload_n C (jd jdt_Qu_negation 0 rfl) rfl) ?_
  refine J_mono (jg_Qu_9 C hp0 (jd jdt_Qu_negation 1 rfl)) ?_
  refine J_bind (fun q1 hq1 => ?_)
  refine J_mono (jc_Qu_46 C (jkf_6_0 hp0) (C_Re_step l G F (jpf a0 0) (jkf_6_0 hp0) M hq1) rfl (by omega) (jd jdt_Qu_negation 2 rfl)) ?_
  refine J_mono (w_aload_n C (jd jdt_Qu_negation 3 rfl) rfl) ?_
  refine J_mono (w_iload_n C (jd jdt_Qu_negation 4 rfl) rfl) ?_
  refine J_bind (fun q2 hq2 => ?_)
  refine J_mono (jc_Qu_99 C hp0 (gh.2.2.1 a0 a1 hp0 q1 _ hq2) rfl (by omega) (jd jdt_Qu_negation 5 rfl)) ?_
  refine J_br (w_if_ne (y := 0) C (jd jdt_Qu_negation 6 rfl) rfl) (fun h3 => J_pos h3 ?_) (fun h3 => J_neg h3 ?_)
  · refine J_mono (w_iconst_0 C (jd jdt_Qu_negation 7 rfl)) ?_
    exact J_some (fun hx => hR 0 q2.2 hx _ _ (jd jdt_Qu_negation 8 rfl) rfl)
  · refine J_mono (w_iconst_0 C (jd jdt_Qu_negation 9 rfl)) ?_
    refine J_mono (w_istore_n (ls' := [some (.ref a0), some (.int a1), some (.int 0)]) C (jd jdt_Qu_negation 10 rfl) (by decide) rfl rfl) ?_
    have L19 : ∀ (y0 : Nat) (hy0 : jkd y0 6) (n : Nat) (x2 : Int32) (M : SM), J (fun (q9 : SM) => Wk p l e R s m args below meth c G 3 Q 0 0 jN0 (jce G q9) 67 [none, none, none] []) (lp_Qu_negation_19 gf y0 n x2 M) (Wk p l e R s m args below meth c G 3 Q 0 0 jN0 (jce G M) 19 [some (.ref y0), none, some (.int x2)] []) := by
      intro y0 hy0 n
      induction n with
      | zero => intro x2 M; exact J_none
      | succ n ih =>
        intro x2 M
        unfold lp_Qu_negation_19
        refine J_mono (w_iload_n C (jd jdt_Qu_negation 11 rfl) rfl) ?_
        refine J_mono (w_bipush_60 C (jd jdt_Qu_negation 12 rfl)) ?_
        refine J_br (w_icmp_gt C (jd jdt_Qu_negation 13 rfl) rfl) (fun h4 => J_pos h4 ?_) (fun h4 => J_neg h4 ?_)
        · exact J_some (fun hx => Wk_sb hx trivial)
        · refine J_mono (w_aload_n C (jd jdt_Qu_negation 14 rfl) rfl) ?_
          refine J_mono (jg_Qu_25 C hy0 (jd jdt_Qu_negation 15 rfl)) ?_
          refine J_mono (w_aload_n C (jd jdt_Qu_negation 16 rfl) rfl) ?_
          refine J_mono (jg_Qu_28 C hy0 (jd jdt_Qu_negation 17 rfl)) ?_
          refine J_mono (w_iconst_1 C (jd jdt_Qu_negation 18 rfl)) ?_
          refine J_mono (w_isub C (jd jdt_Qu_negation 19 rfl)) ?_
          refine J_mono (w_iload_n C (jd jdt_Qu_negation 20 rfl) rfl) ?_
          refine J_mono (w_aload_n C (jd jdt_Qu_negation 21 rfl) rfl) ?_
          refine J_mono (jg_Qu_25 C hy0 (jd jdt_Qu_negation 22 rfl)) ?_
          refine J_mono (w_aload_n C (jd jdt_Qu_negation 23 rfl) rfl) ?_
          refine J_mono (jg_Qu_28 C hy0 (jd jdt_Qu_negation 24 rfl)) ?_
          refine J_mono (w_iconst_1 C (jd jdt_Qu_negation 25 rfl)) ?_
          refine J_mono (w_isub C (jd jdt_Qu_negation 26 rfl)) ?_
          refine J_mono (w_iload_n C (jd jdt_Qu_negation 27 rfl) rfl) ?_
          refine J_bind (fun q5 hq5 => ?_)
          refine J_mono (jc_Qu_66 C (C_Sp_cellOf l G F (jpf y0 2) ((M.1 y0 3) - 1) x2 (jkf_6_2 hy0) M hq5) rfl (by omega) (jd jdt_Qu_negation 28 rfl)) ?_
          refine J_seq (fun (q6 : Int32) => Wk p l e R s m args below meth c G 3 Q 0 0 jN0 (jce G M) 58 [some (.ref y0), none, some (.int x2)] [.int q6, .int x2, .int ((M.1 y0 3) - 1), .ref (jpf y0 2)]) ?_ (fun q6 hq6 => ?_)
          · refine J_br (w_if_ne (y := 0) C (jd jdt_Qu_negation 29 rfl) rfl) (fun h7 => J_pos h7 ?_) (fun h7 => J_neg h7 ?_)
            · refine J_mono (w_iconst_1 C (jd jdt_Qu_negation 30 rfl)) ?_
              refine J_mono (w_goto C (jd jdt_Qu_negation 31 rfl) rfl) ?_
              exact J_some (fun hx => Wk_sb hx ⟨rfl, rfl, trivial⟩)
            · refine J_mono (w_iconst_0 C (jd jdt_Qu_negation 32 rfl)) ?_
              exact J_some (fun hx => Wk_sb hx ⟨rfl, rfl, trivial⟩)
          · refine J_bind (fun q8 hq8 => ?_)
            refine J_mono (jc_Qu_128 C (C_Sp_putCell l G F (jpf y0 2) ((M.1 y0 3) - 1) x2 q6 (jkf_6_2 hy0) M hq8) rfl (by omega) (jd jdt_Qu_negation 33 rfl)) ?_
            refine J_mono (w_iinc (v := x2 + 1) (ls' := [some (.ref y0), none, some (.int (x2 + 1))]) C (jd jdt_Qu_negation 34 rfl) rfl rfl (by decide) rfl rfl) ?_
            refine J_mono (w_goto C (jd jdt_Qu_negation 35 rfl) rfl) ?_
            exact J_sub (ih (x2 + 1) q8) ⟨rfl, rfl, trivial⟩
    refine J_seq (fun (q9 : SM) => Wk p l e R s m args below meth c G 3 Q 0 0 jN0 (jce G q9) 67 [none, none, none] []) (J_sub (L19 a0 hp0 jfuel 0 q2.2) ⟨rfl, rfl, trivial⟩) (fun q9 hq9 => ?_)
    refine J_mono (w_iconst_1 C (jd jdt_Qu_negation 36 rfl)) ?_
    exact J_some (fun hx => hR 1 q9 hx _ _ (jd jdt_Qu_negation 37 rfl) rfl)
end
def fg_Qu_test : Nat → (Nat → Int32 → SM → Option (Int32 × SM)) × (Nat → Int32 → SM → Option (Int32 × SM)) × (Nat → Int32 → SM → Option (Int32 × SM)) × (Nat → Int32 → SM → Option (Int32 × SM))
  | 0 => (fun _ _ _ => none, fun _ _ _ => none, fun _ _ _ => none, fun _ _ _ => none)
  | n + 1 => (fb_Qu_test (fg_Qu_test n), fb_Qu_both (fg_Qu_test n), fb_Qu_fact (fg_Qu_test n), fb_Qu_negation (fg_Qu_test n))
def f_Qu_test (n : Nat) : (Nat → Int32 → SM → Option (Int32 × SM)) := (fg_Qu_test n).1
def f_Qu_both (n : Nat) : (Nat → Int32 → SM → Option (Int32 × SM)) := (fg_Qu_test n).2.1
def f_Qu_fact (n : Nat) : (Nat → Int32 → SM → Option (Int32 × SM)) := (fg_Qu_test n).2.2.1
def f_Qu_negation (n : Nat) : (Nat → Int32 → SM → Option (Int32 × SM)) := (fg_Qu_test n).2.2.2
set_option maxHeartbeats 4000000 in
set_option maxRecDepth 20000 in
theorem CG_Qu_test (l : Launch) (G : JG) (F : jF G = false) : ∀ n : Nat, (∀ (a0 : Nat) (a1 : Int32) (hp0 : jkd a0 6) (M : SM) (q : (Int32 × SM)), ((fg_Qu_test n).1 a0 a1 M) = some q → jMet l jy_Qu_test jb_Qu_test 3 (some FieldType.boolean) (51 + n) 0 0 G [.ref a0, .int a1] jN0 (jce G M) (some (.int q.1)) jN0 (jce G q.2)) ∧ (∀ (a0 : Nat) (a1 : Int32) (hp0 : jkd a0 6) (M : SM) (q : (Int32 × SM)), ((fg_Qu_test n).2.1 a0 a1 M) = some q → jMet l jy_Qu_both jb_Qu_both 3 (some FieldType.boolean) (51 + n) 0 0 G [.ref a0, .int a1] jN0 (jce G M) (some (.int q.1)) jN0 (jce G q.2)) ∧ (∀ (a0 : Nat) (a1 : Int32) (hp0 : jkd a0 6) (M : SM) (q : (Int32 × SM)), ((fg_Qu_test n).2.2.1 a0 a1 M) = some q → jMet l jy_Qu_fact jb_Qu_fact 2 (some FieldType.boolean) (51 + n) 0 0 G [.ref a0, .int a1] jN0 (jce G M) (some (.int q.1)) jN0 (jce G q.2)) ∧ (∀ (a0 : Nat) (a1 : Int32) (hp0 : jkd a0 6) (M : SM) (q : (Int32 × SM)), ((fg_Qu_test n).2.2.2 a0 a1 M) = some q → jMet l jy_Qu_negation jb_Qu_negation 3 (some FieldType.boolean) (51 + n) 0 0 G [.ref a0, .int a1] jN0 (jce G M) (some (.int q.1)) jN0 (jce G q.2))
  | 0 => ⟨fun _ _ _ _ _ h => (by cases h), fun _ _ _ _ _ h => (by cases h), fun _ _ _ _ _ h => (by cases h), fun _ _ _ _ _ h => (by cases h)⟩
  | n + 1 => by
    have gh := CG_Qu_test l G F n
    refine ⟨?_, ?_, ?_, ?_⟩
    · intro a0 a1 hp0 M q hf
      exact j_met jo_Qu_test (by omega) (Nat.le_of_ble_eq_true rfl) (fun p e s m args below meth c C hr hm => K_Qu_test (fg_Qu_test n) C F gh (Nat.le_refl _) a0 a1 hp0 M (fun t => t = q) (fun v M' hX pc ls hd hn => by cases hX; exact w_iret C hr hn hd) _ hf rfl)
    · intro a0 a1 hp0 M q hf
      exact j_met jo_Qu_both (by omega) (Nat.le_of_ble_eq_true rfl) (fun p e s m args below meth c C hr hm => K_Qu_both (fg_Qu_test n) C F gh (Nat.le_refl _) a0 a1 hp0 M (fun t => t = q) (fun v M' hX pc ls hd hn => by cases hX; exact w_iret C hr hn hd) _ hf rfl)
    · intro a0 a1 hp0 M q hf
      exact j_met jo_Qu_fact (by omega) (Nat.le_of_ble_eq_true rfl) (fun p e s m args below meth c C hr hm => K_Qu_fact (fg_Qu_test n) C F gh (Nat.le_refl _) a0 a1 hp0 M (fun t => t = q) (fun v M' hX pc ls hd hn => by cases hX; exact w_iret C hr hn hd) _ hf rfl)
    · intro a0 a1 hp0 M q hf
      exact j_met jo_Qu_negation (by omega) (Nat.le_of_ble_eq_true rfl) (fun p e s m args below meth c C hr hm => K_Qu_negation (fg_Qu_test n) C F gh (Nat.le_refl _) a0 a1 hp0 M (fun t => t = q) (fun v M' hX pc ls hd hn => by cases hX; exact w_iret C hr hn hd) _ hf rfl)
theorem C_Qu_test (l : Launch) (G : JG) (F : jF G = false) (n : Nat) (a0 : Nat) (a1 : Int32) (hp0 : jkd a0 6) (M : SM) {q : (Int32 × SM)} (hf : f_Qu_test n a0 a1 M = some q) : jMet l jy_Qu_test jb_Qu_test 3 (some FieldType.boolean) (51 + n) 0 0 G [.ref a0, .int a1] jN0 (jce G M) (some (.int q.1)) jN0 (jce G q.2) := (CG_Qu_test l G F n).1 a0 a1 hp0 M q hf
theorem C_Qu_both (l : Launch) (G : JG) (F : jF G = false) (n : Nat) (a0 : Nat) (a1 : Int32) (hp0 : jkd a0 6) (M : SM) {q : (Int32 × SM)} (hf : f_Qu_both n a0 a1 M = some q) : jMet l jy_Qu_both jb_Qu_both 3 (some FieldType.boolean) (51 + n) 0 0 G [.ref a0, .int a1] jN0 (jce G M) (some (.int q.1)) jN0 (jce G q.2) := (CG_Qu_test l G F n).2.1 a0 a1 hp0 M q hf
theorem C_Qu_fact (l : Launch) (G : JG) (F : jF G = false) (n : Nat) (a0 : Nat) (a1 : Int32) (hp0 : jkd a0 6) (M : SM) {q : (Int32 × SM)} (hf : f_Qu_fact n a0 a1 M = some q) : jMet l jy_Qu_fact jb_Qu_fact 2 (some FieldType.boolean) (51 + n) 0 0 G [.ref a0, .int a1] jN0 (jce G M) (some (.int q.1)) jN0 (jce G q.2) := (CG_Qu_test l G F n).2.2.1 a0 a1 hp0 M q hf
theorem C_Qu_negation (l : Launch) (G : JG) (F : jF G = false) (n : Nat) (a0 : Nat) (a1 : Int32) (hp0 : jkd a0 6) (M : SM) {q : (Int32 × SM)} (hf : f_Qu_negation n a0 a1 M = some q) : jMet l jy_Qu_negation jb_Qu_negation 3 (some FieldType.boolean) (51 + n) 0 0 G [.ref a0, .int a1] jN0 (jce G M) (some (.int q.1)) jN0 (jce G q.2) := (CG_Qu_test l G F n).2.2.2 a0 a1 hp0 M q hf
def lp_Qu_tellTest_10 (y0 : Nat) (M : SM) : Nat → Int32 → Int32 → Int32 → Int32 → Option (Int32 × Int32 × Int32)
  | 0, _, _, _, _ => none
  | n + 1, x2, x3, x4, x5 => if 60 < x5 then (some (x2, x3, x4)) else ((f_Sp_cellOf (jpf y0 2) 0 x5 M).bind fun q2 => (if q2 = 0 then (some (x2, x3, x4)) else ((if x4 = 0 then (some x5) else (some x2) : Option (Int32)).bind fun q5 => some (q5, x5, x4 + 1)) : Option (Int32 × Int32 × Int32)).bind fun q3 => lp_Qu_tellTest_10 y0 M n q3.1 q3.2.1 q3.2.2 (x5 + 1))
def f_Qu_tellTest (a0 : Nat) (a1 : Int32) (M : SM) : Option Int64 := (lp_Qu_tellTest_10 a0 M jfuel (-1) (-1) 0 0).bind fun q7 => if a1 = 0 then (some (Int32.toInt64 q7.1)) else (if a1 = 1 then (some (Int32.toInt64 q7.2.1)) else (some (Int32.toInt64 q7.2.2)))
section
variable {p : Program} {l : Launch} {e : Env} {R : Room} {s : State} {m : MethodId} {args : Array Value} {below : List Frame} {meth : Method} {c : Code} {G : JG} {D : Nat} {Q : State → Prop}
set_option maxHeartbeats 4000000 in
set_option maxRecDepth 20000 in
theorem K_Qu_tellTest (C : jCx p R s m args meth c G jb_Qu_tellTest 6 D "SluicePit$Question") (F : jF G = false) (hD : 2 ≤ D) (a0 : Nat) (a1 : Int32) (hp0 : jkd a0 6) (M : SM) (X : Int64 → Prop) (hR : ∀ v, X v → ∀ (pc : Nat) (ls : List (Option Value)), decode jb_Qu_tellTest pc = .ok (.lreturn, 1) → Wk p l e R s m args below meth c G 6 Q 0 0 jN0 (jce G M) pc ls [.long v]) : J X (f_Qu_tellTest a0 a1 M) (Wk p l e R s m args below meth c G 6 Q 0 0 jN0 (jce G M) 0 [some (.ref a0), some (.int a1), none, none, none, none] []) := by
  unfold f_Qu_tellTest
  refine J_mono (w_iconst_m1 C (jd jdt_Qu_tellTest 0 rfl)) ?_
  refine J_mono (w_istore_n (ls' := [some (.ref a0), some (.int a1), some (.int (-1)), none, none, none]) C (jd jdt_Qu_tellTest 1 rfl) (by decide) rfl rfl) ?_
  refine J_mono (w_iconst_m1 C (jd jdt_Qu_tellTest 2 rfl)) ?_
  refine J_mono (w_istore_n (ls' := [some (.ref a0), some (.int a1), some (.int (-1)), some (.int (-1)), none, none]) C (jd jdt_Qu_tellTest 3 rfl) (by decide) rfl rfl) ?_
  refine J_mono (w_iconst_0 C (jd jdt_Qu_tellTest 4 rfl)) ?_
  refine J_mono (w_istore (ls' := [some (.ref a0), some (.int a1), some (.int (-1)), some (.int (-1)), some (.int 0), none]) C (jd jdt_Qu_tellTest 5 rfl) (by decide) rfl rfl) ?_
  refine J_mono (w_iconst_0 C (jd jdt_Qu_tellTest 6 rfl)) ?_
  refine J_mono (w_istore (ls' := [some (.ref a0), some (.int a1), some (.int (-1)), some (.int (-1)), some (.int 0), some (.int 0)]) C (jd jdt_Qu_tellTest 7 rfl) (by decide) rfl rfl) ?_
  have L10 : ∀ (y0 : Nat) (y1 : Int32) (hy0 : jkd y0 6) (n : Nat) (x2 : Int32) (x3 : Int32) (x4 : Int32) (x5 : Int32), J (fun (q7 : Int32 × Int32 × Int32) => Wk p l e R s m args below meth c G 6 Q 0 0 jN0 (jce G M) 54 [none, some (.int y1), some (.int q7.1), some (.int q7.2.1), some (.int q7.2.2), none] []) (lp_Qu_tellTest_10 y0 M n x2 x3 x4 x5) (Wk p l e R s m args below meth c G 6 Q 0 0 jN0 (jce G M) 10 [some (.ref y0), some (.int y1), some (.int x2), some (.int x3), some (.int x4), some (.int x5)] []) := by
    intro y0 y1 hy0 n
    induction n with
    | zero => intro x2 x3 x4 x5; exact J_none
    | succ n ih =>
      intro x2 x3 x4 x5
      unfold lp_Qu_tellTest_10
      refine J_mono (w_iload C (jd jdt_Qu_tellTest 8 rfl) rfl) ?_
      refine J_mono (w_bipush_60 C (jd jdt_Qu_tellTest 9 rfl)) ?_
      refine J_br (w_icmp_gt C (jd jdt_Qu_tellTest 10 rfl) rfl) (fun h1 => J_pos h1 ?_) (fun h1 => J_neg h1 ?_)
      · exact J_some (fun hx => Wk_sb hx ⟨rfl, rfl, rfl, rfl, trivial⟩)
      · refine J_mono (w_aload_n C (jd jdt_Qu_tellTest 11 rfl) rfl) ?_
        refine J_mono (jg_Qu_25 C hy0 (jd jdt_Qu_tellTest 12 rfl)) ?_
        refine J_mono (w_iconst_0 C (jd jdt_Qu_tellTest 13 rfl)) ?_
        refine J_mono (w_iload C (jd jdt_Qu_tellTest 14 rfl) rfl) ?_
        refine J_bind (fun q2 hq2 => ?_)
        refine J_mono (jc_Qu_66 C (C_Sp_cellOf l G F (jpf y0 2) 0 x5 (jkf_6_2 hy0) M hq2) rfl (Nat.le_trans (Nat.le_of_ble_eq_true rfl : 1 + 1 ≤ 2) hD) (jd jdt_Qu_tellTest 15 rfl)) ?_
        refine J_seq (fun (q3 : Int32 × Int32 × Int32) => Wk p l e R s m args below meth c G 6 Q 0 0 jN0 (jce G M) 48 [some (.ref y0), some (.int y1), some (.int q3.1), some (.int q3.2.1), some (.int q3.2.2), some (.int x5)] []) ?_ (fun q3 hq3 => ?_)
        · refine J_br (w_if_eq (y := 0) C (jd jdt_Qu_tellTest 16 rfl) rfl) (fun h4 => J_pos h4 ?_) (fun h4 => J_neg h4 ?_)
          · exact J_some (fun hx => Wk_sb hx ⟨rfl, rfl, rfl, rfl, rfl, rfl, trivial⟩)
          · refine J_mono (w_iload C (jd jdt_Qu_tellTest 17 rfl) rfl) ?_
            refine J_seq (fun (q5 : Int32) => Wk p l e R s m args below meth c G 6 Q 0 0 jN0 (jce G M) 41 [some (.ref y0), some (.int y1), none, none, some (.int x4), some (.int x5)] [.int q5]) ?_ (fun q5 hq5 => ?_)
            · refine J_br (w_if_ne (y := 0) C (jd jdt_Qu_tellTest 18 rfl) rfl) (fun h6 => J_pos h6 ?_) (fun h6 => J_neg h6 ?_)
              · refine J_mono (w_iload C (jd jdt_Qu_tellTest 19 rfl) rfl) ?_
                refine J_mono (w_goto C (jd jdt_Qu_tellTest 20 rfl) rfl) ?_
                exact J_some (fun hx => Wk_sb hx ⟨rfl, rfl, rfl, rfl, trivial⟩)
              · refine J_mono (w_iload_n C (jd jdt_Qu_tellTest 21 rfl) rfl) ?_
                exact J_some (fun hx => Wk_sb hx ⟨rfl, rfl, rfl, rfl, trivial⟩)
            · refine J_mono (w_istore_n (ls' := [some (.ref y0), some (.int y1), some (.int q5), none, some (.int x4), some (.int x5)]) C (jd jdt_Qu_tellTest 22 rfl) (by decide) rfl rfl) ?_
              refine J_mono (w_iload C (jd jdt_Qu_tellTest 23 rfl) rfl) ?_
              refine J_mono (w_istore_n (ls' := [some (.ref y0), some (.int y1), some (.int q5), some (.int x5), some (.int x4), some (.int x5)]) C (jd jdt_Qu_tellTest 24 rfl) (by decide) rfl rfl) ?_
              refine J_mono (w_iinc (v := x4 + 1) (ls' := [some (.ref y0), some (.int y1), some (.int q5), some (.int x5), some (.int (x4 + 1)), some (.int x5)]) C (jd jdt_Qu_tellTest 25 rfl) rfl rfl (by decide) rfl rfl) ?_
              exact J_some (fun hx => Wk_sb hx ⟨rfl, rfl, rfl, rfl, rfl, rfl, trivial⟩)
        · refine J_mono (w_iinc (v := x5 + 1) (ls' := [some (.ref y0), some (.int y1), some (.int q3.1), some (.int q3.2.1), some (.int q3.2.2), some (.int (x5 + 1))]) C (jd jdt_Qu_tellTest 26 rfl) rfl rfl (by decide) rfl rfl) ?_
          refine J_mono (w_goto C (jd jdt_Qu_tellTest 27 rfl) rfl) ?_
          exact J_sub (ih q3.1 q3.2.1 q3.2.2 (x5 + 1)) ⟨rfl, rfl, rfl, rfl, rfl, rfl, trivial⟩
  refine J_seq (fun (q7 : Int32 × Int32 × Int32) => Wk p l e R s m args below meth c G 6 Q 0 0 jN0 (jce G M) 54 [none, some (.int a1), some (.int q7.1), some (.int q7.2.1), some (.int q7.2.2), none] []) (J_sub (L10 a0 a1 hp0 jfuel (-1) (-1) 0 0) ⟨rfl, rfl, rfl, rfl, rfl, rfl, trivial⟩) (fun q7 hq7 => ?_)
  refine J_mono (w_iload_n C (jd jdt_Qu_tellTest 28 rfl) rfl) ?_
  refine J_br (w_if_ne (y := 0) C (jd jdt_Qu_tellTest 29 rfl) rfl) (fun h8 => J_pos h8 ?_) (fun h8 => J_neg h8 ?_)
  · refine J_mono (w_iload_n C (jd jdt_Qu_tellTest 30 rfl) rfl) ?_
    refine J_mono (w_i2l C (jd jdt_Qu_tellTest 31 rfl)) ?_
    exact J_some (fun hx => hR (Int32.toInt64 q7.1) hx _ _ (jd jdt_Qu_tellTest 32 rfl) )
  · refine J_mono (w_iload_n C (jd jdt_Qu_tellTest 33 rfl) rfl) ?_
    refine J_mono (w_iconst_1 C (jd jdt_Qu_tellTest 34 rfl)) ?_
    refine J_br (w_icmp_ne C (jd jdt_Qu_tellTest 35 rfl) rfl) (fun h9 => J_pos h9 ?_) (fun h9 => J_neg h9 ?_)
    · refine J_mono (w_iload_n C (jd jdt_Qu_tellTest 36 rfl) rfl) ?_
      refine J_mono (w_i2l C (jd jdt_Qu_tellTest 37 rfl)) ?_
      refine J_mono (w_goto C (jd jdt_Qu_tellTest 38 rfl) rfl) ?_
      exact J_some (fun hx => hR (Int32.toInt64 q7.2.1) hx _ _ (jd jdt_Qu_tellTest 41 rfl) )
    · refine J_mono (w_iload C (jd jdt_Qu_tellTest 39 rfl) rfl) ?_
      refine J_mono (w_i2l C (jd jdt_Qu_tellTest 40 rfl)) ?_
      exact J_some (fun hx => hR (Int32.toInt64 q7.2.2) hx _ _ (jd jdt_Qu_tellTest 41 rfl) )
end
theorem C_Qu_tellTest (l : Launch) (G : JG) (F : jF G = false) (a0 : Nat) (a1 : Int32) (hp0 : jkd a0 6) (M : SM) {q : Int64} (hf : f_Qu_tellTest a0 a1 M = some q) : jMet l jy_Qu_tellTest jb_Qu_tellTest 6 (some FieldType.long) 2 0 0 G [.ref a0, .int a1] jN0 (jce G M) (some (.long q)) jN0 (jce G M) :=
  j_met jo_Qu_tellTest (by decide) (Nat.le_of_ble_eq_true rfl) (fun p e s m args below meth c C hr hm => K_Qu_tellTest C F (Nat.le_refl _) a0 a1 hp0 M (fun t => t = q) (fun v hX pc ls hd => by cases hX; exact w_lret C hr hd) _ hf rfl)
def lp_Qu_tellSum_20 (y0 : Nat) (M : SM) : Nat → Int64 → Int32 → Int32 → Int32 → Option (Int64 × Int32 × Int32)
  | 0, _, _, _, _ => none
  | n + 1, x2, x4, x5, x6 => if 60 < x6 then (some (x2, x4, x5)) else ((f_Sp_cellOf (jpf y0 2) 0 x6 M).bind fun q3 => lp_Qu_tellSum_20 y0 M n (x2 + q3.toInt64) (jmax x4 q3) (jmin x5 q3) (x6 + 1))
def f_Qu_tellSum (a0 : Nat) (a1 : Int32) (M : SM) : Option Int64 := (f_Sp_cellOf (jpf a0 2) 0 0 M).bind fun q1 => (lp_Qu_tellSum_20 a0 M jfuel 0 q1 q1 0).bind fun q4 => if a1 = 3 then (some q4.1) else (if a1 = 4 then (some (Int32.toInt64 q4.2.1)) else (some (Int32.toInt64 q4.2.2)))
section
variable {p : Program} {l : Launch} {e : Env} {R : Room} {s : State} {m : MethodId} {args : Array Value} {below : List Frame} {meth : Method} {c : Code} {G : JG} {D : Nat} {Q : State → Prop}
set_option maxHeartbeats 4000000 in
set_option maxRecDepth 20000 in
theorem K_Qu_tellSum (C : jCx p R s m args meth c G jb_Qu_tellSum 8 D "SluicePit$Question") (F : jF G = false) (hD : 7 ≤ D) (a0 : Nat) (a1 : Int32) (hp0 : jkd a0 6) (M : SM) (X : Int64 → Prop) (hR : ∀ v, X v → ∀ (pc : Nat) (ls : List (Option Value)), decode jb_Qu_tellSum pc = .ok (.lreturn, 1) → Wk p l e R s m args below meth c G 8 Q 0 0 jN0 (jce G M) pc ls [.long v]) : J X (f_Qu_tellSum a0 a1 M) (Wk p l e R s m args below meth c G 8 Q 0 0 jN0 (jce G M) 0 [some (.ref a0), some (.int a1), none, none, none, none, none, none] []) := by
  unfold f_Qu_tellSum
  refine J_mono (w_lconst_0 C (jd jdt_Qu_tellSum 0 rfl)) ?_
  refine J_mono (w_lstore_n (ls' := [some (.ref a0), some (.int a1), some (.long 0), none, none, none, none, none]) C (jd jdt_Qu_tellSum 1 rfl) (by decide) rfl rfl) ?_
  refine J_mono (w_aload_n C (jd jdt_Qu_tellSum 2 rfl) rfl) ?_
  refine J_mono (jg_Qu_25 C hp0 (jd jdt_Qu_tellSum 3 rfl)) ?_
  refine J_mono (w_iconst_0 C (jd jdt_Qu_tellSum 4 rfl)) ?_
  refine J_mono (w_iconst_0 C (jd jdt_Qu_tellSum 5 rfl)) ?_
  refine J_bind (fun q1 hq1 => ?_)
  refine J_mono (jc_Qu_66 C (C_Sp_cellOf l G F (jpf a0 2) 0 0 (jkf_6_2 hp0) M hq1) rfl (Nat.le_trans (Nat.le_of_ble_eq_true rfl : 1 + 1 ≤ 7) hD) (jd jdt_Qu_tellSum 6 rfl)) ?_
  refine J_mono (w_istore (ls' := [some (.ref a0), some (.int a1), some (.long 0), none, some (.int q1), none, none, none]) C (jd jdt_Qu_tellSum 7 rfl) (by decide) rfl rfl) ?_
  refine J_mono (w_iload C (jd jdt_Qu_tellSum 8 rfl) rfl) ?_
  refine J_mono (w_istore (ls' := [some (.ref a0), some (.int a1), some (.long 0), none, some (.int q1), some (.int q1), none, none]) C (jd jdt_Qu_tellSum 9 rfl) (by decide) rfl rfl) ?_
  refine J_mono (w_iconst_0 C (jd jdt_Qu_tellSum 10 rfl)) ?_
  refine J_mono (w_istore (ls' := [some (.ref a0), some (.int a1), some (.long 0), none, some (.int q1), some (.int q1), some (.int 0), none]) C (jd jdt_Qu_tellSum 11 rfl) (by decide) rfl rfl) ?_
  have L20 : ∀ (y0 : Nat) (y1 : Int32) (hy0 : jkd y0 6) (n : Nat) (x2 : Int64) (x4 : Int32) (x5 : Int32) (x6 : Int32), J (fun (q4 : Int64 × Int32 × Int32) => Wk p l e R s m args below meth c G 8 Q 0 0 jN0 (jce G M) 69 [none, some (.int y1), some (.long q4.1), none, some (.int q4.2.1), some (.int q4.2.2), none, none] []) (lp_Qu_tellSum_20 y0 M n x2 x4 x5 x6) (Wk p l e R s m args below meth c G 8 Q 0 0 jN0 (jce G M) 20 [some (.ref y0), some (.int y1), some (.long x2), none, some (.int x4), some (.int x5), some (.int x6), none] []) := by
    intro y0 y1 hy0 n
    induction n with
    | zero => intro x2 x4 x5 x6; exact J_none
    | succ n ih =>
      intro x2 x4 x5 x6
      unfold lp_Qu_tellSum_20
      refine J_mono (w_iload C (jd jdt_Qu_tellSum 12 rfl) rfl) ?_
      refine J_mono (w_bipush_60 C (jd jdt_Qu_tellSum 13 rfl)) ?_
      refine J_br (w_icmp_gt C (jd jdt_Qu_tellSum 14 rfl) rfl) (fun h2 => J_pos h2 ?_) (fun h2 => J_neg h2 ?_)
      · exact J_some (fun hx => Wk_sb hx ⟨rfl, rfl, rfl, rfl, trivial⟩)
      · refine J_mono (w_aload_n C (jd jdt_Qu_tellSum 15 rfl) rfl) ?_
        refine J_mono (jg_Qu_25 C hy0 (jd jdt_Qu_tellSum 16 rfl)) ?_
        refine J_mono (w_iconst_0 C (jd jdt_Qu_tellSum 17 rfl)) ?_
        refine J_mono (w_iload C (jd jdt_Qu_tellSum 18 rfl) rfl) ?_
        refine J_bind (fun q3 hq3 => ?_)
        refine J_mono (jc_Qu_66 C (C_Sp_cellOf l G F (jpf y0 2) 0 x6 (jkf_6_2 hy0) M hq3) rfl (Nat.le_trans (Nat.le_of_ble_eq_true rfl : 1 + 1 ≤ 7) hD) (jd jdt_Qu_tellSum 19 rfl)) ?_
        refine J_mono (w_istore (ls' := [some (.ref y0), some (.int y1), some (.long x2), none, some (.int x4), some (.int x5), some (.int x6), some (.int q3)]) C (jd jdt_Qu_tellSum 20 rfl) (by decide) rfl rfl) ?_
        refine J_mono (w_lload_n C (jd jdt_Qu_tellSum 21 rfl) rfl) ?_
        refine J_mono (w_iload C (jd jdt_Qu_tellSum 22 rfl) rfl) ?_
        refine J_mono (w_i2l C (jd jdt_Qu_tellSum 23 rfl)) ?_
        refine J_mono (w_ladd C (jd jdt_Qu_tellSum 24 rfl)) ?_
        refine J_mono (w_lstore_n (ls' := [some (.ref y0), some (.int y1), some (.long (x2 + q3.toInt64)), none, some (.int x4), some (.int x5), some (.int x6), some (.int q3)]) C (jd jdt_Qu_tellSum 25 rfl) (by decide) rfl rfl) ?_
        refine J_mono (w_iload C (jd jdt_Qu_tellSum 26 rfl) rfl) ?_
        refine J_mono (w_iload C (jd jdt_Qu_tellSum 27 rfl) rfl) ?_
        refine J_mono (w_mmax C (Nat.zero_le _) (Nat.zero_le _) (Nat.le_of_ble_eq_true rfl) jw_1114 (jd jdt_Qu_tellSum 28 rfl)) ?_
        refine J_mono (w_istore (ls' := [some (.ref y0), some (.int y1), some (.long (x2 + q3.toInt64)), none, some (.int (jmax x4 q3)), some (.int x5), some (.int x6), some (.int q3)]) C (jd jdt_Qu_tellSum 29 rfl) (by decide) rfl rfl) ?_
        refine J_mono (w_iload C (jd jdt_Qu_tellSum 30 rfl) rfl) ?_
        refine J_mono (w_iload C (jd jdt_Qu_tellSum 31 rfl) rfl) ?_
        refine J_mono (w_mmin C (Nat.zero_le _) (Nat.zero_le _) (Nat.le_of_ble_eq_true rfl) jw_1113 (jd jdt_Qu_tellSum 32 rfl)) ?_
        refine J_mono (w_istore (ls' := [some (.ref y0), some (.int y1), some (.long (x2 + q3.toInt64)), none, some (.int (jmax x4 q3)), some (.int (jmin x5 q3)), some (.int x6), some (.int q3)]) C (jd jdt_Qu_tellSum 33 rfl) (by decide) rfl rfl) ?_
        refine J_mono (w_iinc (v := x6 + 1) (ls' := [some (.ref y0), some (.int y1), some (.long (x2 + q3.toInt64)), none, some (.int (jmax x4 q3)), some (.int (jmin x5 q3)), some (.int (x6 + 1)), some (.int q3)]) C (jd jdt_Qu_tellSum 34 rfl) rfl rfl (by decide) rfl rfl) ?_
        refine J_mono (w_goto C (jd jdt_Qu_tellSum 35 rfl) rfl) ?_
        exact J_sub (ih (x2 + q3.toInt64) (jmax x4 q3) (jmin x5 q3) (x6 + 1)) ⟨rfl, rfl, rfl, rfl, rfl, rfl, trivial⟩
  refine J_seq (fun (q4 : Int64 × Int32 × Int32) => Wk p l e R s m args below meth c G 8 Q 0 0 jN0 (jce G M) 69 [none, some (.int a1), some (.long q4.1), none, some (.int q4.2.1), some (.int q4.2.2), none, none] []) (J_sub (L20 a0 a1 hp0 jfuel 0 q1 q1 0) ⟨rfl, rfl, rfl, rfl, rfl, rfl, trivial⟩) (fun q4 hq4 => ?_)
  refine J_mono (w_iload_n C (jd jdt_Qu_tellSum 36 rfl) rfl) ?_
  refine J_mono (w_iconst_3 C (jd jdt_Qu_tellSum 37 rfl)) ?_
  refine J_br (w_icmp_ne C (jd jdt_Qu_tellSum 38 rfl) rfl) (fun h5 => J_pos h5 ?_) (fun h5 => J_neg h5 ?_)
  · refine J_mono (w_lload_n C (jd jdt_Qu_tellSum 39 rfl) rfl) ?_
    exact J_some (fun hx => hR q4.1 hx _ _ (jd jdt_Qu_tellSum 40 rfl) )
  · refine J_mono (w_iload_n C (jd jdt_Qu_tellSum 41 rfl) rfl) ?_
    refine J_mono (w_iconst_4 C (jd jdt_Qu_tellSum 42 rfl)) ?_
    refine J_br (w_icmp_ne C (jd jdt_Qu_tellSum 43 rfl) rfl) (fun h6 => J_pos h6 ?_) (fun h6 => J_neg h6 ?_)
    · refine J_mono (w_iload C (jd jdt_Qu_tellSum 44 rfl) rfl) ?_
      refine J_mono (w_i2l C (jd jdt_Qu_tellSum 45 rfl)) ?_
      refine J_mono (w_goto C (jd jdt_Qu_tellSum 46 rfl) rfl) ?_
      exact J_some (fun hx => hR (Int32.toInt64 q4.2.1) hx _ _ (jd jdt_Qu_tellSum 49 rfl) )
    · refine J_mono (w_iload C (jd jdt_Qu_tellSum 47 rfl) rfl) ?_
      refine J_mono (w_i2l C (jd jdt_Qu_tellSum 48 rfl)) ?_
      exact J_some (fun hx => hR (Int32.toInt64 q4.2.2) hx _ _ (jd jdt_Qu_tellSum 49 rfl) )
end
theorem C_Qu_tellSum (l : Launch) (G : JG) (F : jF G = false) (a0 : Nat) (a1 : Int32) (hp0 : jkd a0 6) (M : SM) {q : Int64} (hf : f_Qu_tellSum a0 a1 M = some q) : jMet l jy_Qu_tellSum jb_Qu_tellSum 8 (some FieldType.long) 7 0 0 G [.ref a0, .int a1] jN0 (jce G M) (some (.long q)) jN0 (jce G M) :=
  j_met jo_Qu_tellSum (by decide) (Nat.le_of_ble_eq_true rfl) (fun p e s m args below meth c C hr hm => K_Qu_tellSum C F (Nat.le_refl _) a0 a1 hp0 M (fun t => t = q) (fun v hX pc ls hd => by cases hX; exact w_lret C hr hd) _ hf rfl)
def f_Qu_answer (a0 : Nat) (a1 : Nat) (M : SM) : Option (Int64 × SM) := (f_Re_wordAmong (jpf a0 0) 1011 (sI (sI M a0 4 (jopn a1)) a0 3 0)).bind fun q1 => if q1 < 0 then ((f_Re_refuse (jpf a0 0) (sI (sI M a0 4 (jopn a1)) a0 3 0)).bind fun q3 => some ((-1000000000000000), q3.2)) else ((f_Re_step (jpf a0 0) (sI (sI M a0 4 (jopn a1)) a0 3 0)).bind fun q4 => (if 2 < q1 then (((f_Qu_sum 40) a0 0 q4).bind fun q7 => some (q7.1, q7.2)) else (((f_Qu_test 40) a0 0 q4).bind fun q8 => some (q8.1, q8.2)) : Option (Int32 × SM)).bind fun q5 => if q5.1 = 0 then (some ((-1000000000000000), q5.2)) else ((f_Re_ended (jpf a0 0) q5.2).bind fun q10 => if q10.1 = 0 then (some ((-1000000000000000), q10.2)) else (if 2 < q1 then ((f_Qu_tellSum a0 q1 q10.2).bind fun q13 => some (q13, q10.2)) else ((f_Qu_tellTest a0 q1 q10.2).bind fun q14 => some (q14, q10.2)))))
section
variable {p : Program} {l : Launch} {e : Env} {R : Room} {s : State} {m : MethodId} {args : Array Value} {below : List Frame} {meth : Method} {c : Code} {G : JG} {D : Nat} {Q : State → Prop}
set_option maxHeartbeats 4000000 in
set_option maxRecDepth 20000 in
theorem K_Qu_answer (C : jCx p R s m args meth c G jb_Qu_answer 4 D "SluicePit$Question") (F : jF G = false) (hD : 92 ≤ D) (a0 : Nat) (a1 : Nat) (hp0 : jkd a0 6) (hp1 : jkd a1 1) (M : SM) (X : (Int64 × SM) → Prop) (hR : ∀ v M', X (v, M') → ∀ (pc : Nat) (ls : List (Option Value)), decode jb_Qu_answer pc = .ok (.lreturn, 1) → Wk p l e R s m args below meth c G 4 Q 0 0 jN0 (jce G M') pc ls [.long v]) : J X (f_Qu_answer a0 a1 M) (Wk p l e R s m args below meth c G 4 Q 0 0 jN0 (jce G M) 0 [some (.ref a0), some (.ref a1), none, none] []) := by
  unfold f_Qu_answer
  refine J_mono (w_aload_n C (jd jdt_Qu_answer 0 rfl) rfl) ?_
  refine J_mono (w_aload_n C (jd jdt_Qu_answer 1 rfl) rfl) ?_
  refine J_mono (jp_Qu_19 C F hp0 hp1 (jd jdt_Qu_answer 2 rfl)) ?_
  refine J_mono (w_aload_n C (jd jdt_Qu_answer 3 rfl) rfl) ?_
  refine J_mono (w_iconst_0 C (jd jdt_Qu_answer 4 rfl)) ?_
  refine J_mono (jp_Qu_28 C F hp0 (jd jdt_Qu_answer 5 rfl)) ?_
  refine J_mono (w_aload_n C (jd jdt_Qu_answer 6 rfl) rfl) ?_
  refine J_mono (jg_Qu_9 C hp0 (jd jdt_Qu_answer 7 rfl)) ?_
  refine J_mono (w_ldcS (i := 11) C rfl (jd jdt_Qu_answer 8 rfl)) ?_
  refine J_bind (fun q1 hq1 => ?_)
  refine J_mono (jc_Qu_34 C (jkf_6_0 hp0) (C_Re_wordAmong l G F (jpf a0 0) 1011 (jkf_6_0 hp0) (jks_of 11) (sI (sI M a0 4 (jopn a1)) a0 3 0) hq1) rfl (Nat.le_trans (Nat.le_of_ble_eq_true rfl : 8 + 1 ≤ 92) hD) (jd jdt_Qu_answer 9 rfl)) ?_
  refine J_mono (w_istore_n (ls' := [some (.ref a0), some (.ref a1), some (.int q1), none]) C (jd jdt_Qu_answer 10 rfl) (by decide) rfl rfl) ?_
  refine J_mono (w_iload_n C (jd jdt_Qu_answer 11 rfl) rfl) ?_
  refine J_br (w_if_ge (y := 0) C (jd jdt_Qu_answer 12 rfl) rfl) (fun h2 => J_pos h2 ?_) (fun h2 => J_neg h2 ?_)
  · refine J_mono (w_aload_n C (jd jdt_Qu_answer 13 rfl) rfl) ?_
    refine J_mono (jg_Qu_9 C hp0 (jd jdt_Qu_answer 14 rfl)) ?_
    refine J_bind (fun q3 hq3 => ?_)
    refine J_mono (jc_Qu_40 C (jkf_6_0 hp0) (C_Re_refuse l G F (jpf a0 0) (jkf_6_0 hp0) (sI (sI M a0 4 (jopn a1)) a0 3 0) hq3) rfl (Nat.le_trans (Nat.le_of_ble_eq_true rfl : 2 + 1 ≤ 92) hD) (jd jdt_Qu_answer 15 rfl)) ?_
    refine J_mono (w_pop_i C (jd jdt_Qu_answer 16 rfl)) ?_
    refine J_mono (w_ldc2 C (jd jdt_Qu_answer 17 rfl) jw_1013) ?_
    exact J_some (fun hx => hR (-1000000000000000) q3.2 hx _ _ (jd jdt_Qu_answer 18 rfl) )
  · refine J_mono (w_aload_n C (jd jdt_Qu_answer 19 rfl) rfl) ?_
    refine J_mono (jg_Qu_9 C hp0 (jd jdt_Qu_answer 20 rfl)) ?_
    refine J_bind (fun q4 hq4 => ?_)
    refine J_mono (jc_Qu_46 C (jkf_6_0 hp0) (C_Re_step l G F (jpf a0 0) (jkf_6_0 hp0) (sI (sI M a0 4 (jopn a1)) a0 3 0) hq4) rfl (Nat.le_trans (Nat.le_of_ble_eq_true rfl : 2 + 1 ≤ 92) hD) (jd jdt_Qu_answer 21 rfl)) ?_
    refine J_mono (w_iload_n C (jd jdt_Qu_answer 22 rfl) rfl) ?_
    refine J_mono (w_iconst_2 C (jd jdt_Qu_answer 23 rfl)) ?_
    refine J_seq (fun (q5 : Int32 × SM) => Wk p l e R s m args below meth c G 4 Q 0 0 jN0 (jce G q5.2) 61 [some (.ref a0), none, some (.int q1), none] [.int q5.1]) ?_ (fun q5 hq5 => ?_)
    · refine J_br (w_icmp_gt C (jd jdt_Qu_answer 24 rfl) rfl) (fun h6 => J_pos h6 ?_) (fun h6 => J_neg h6 ?_)
      · refine J_mono (w_aload_n C (jd jdt_Qu_answer 29 rfl) rfl) ?_
        refine J_mono (w_iconst_0 C (jd jdt_Qu_answer 30 rfl)) ?_
        refine J_bind (fun q7 hq7 => ?_)
        refine J_mono (jc_Qu_53 C hp0 (C_Qu_sum l G F 40 a0 0 hp0 q4 hq7) rfl (Nat.le_trans (Nat.le_of_ble_eq_true rfl : 49 + 1 ≤ 92) hD) (jd jdt_Qu_answer 31 rfl)) ?_
        exact J_some (fun hx => Wk_sb hx ⟨rfl, rfl, trivial⟩)
      · refine J_mono (w_aload_n C (jd jdt_Qu_answer 25 rfl) rfl) ?_
        refine J_mono (w_iconst_0 C (jd jdt_Qu_answer 26 rfl)) ?_
        refine J_bind (fun q8 hq8 => ?_)
        refine J_mono (jc_Qu_49 C hp0 (C_Qu_test l G F 40 a0 0 hp0 q4 hq8) rfl (Nat.le_trans (Nat.le_of_ble_eq_true rfl : 91 + 1 ≤ 92) hD) (jd jdt_Qu_answer 27 rfl)) ?_
        refine J_mono (w_goto C (jd jdt_Qu_answer 28 rfl) rfl) ?_
        exact J_some (fun hx => Wk_sb hx ⟨rfl, rfl, trivial⟩)
    · refine J_mono (w_istore_n (ls' := [some (.ref a0), none, some (.int q1), some (.int q5.1)]) C (jd jdt_Qu_answer 32 rfl) (by decide) rfl rfl) ?_
      refine J_mono (w_iload_n C (jd jdt_Qu_answer 33 rfl) rfl) ?_
      refine J_br (w_if_eq (y := 0) C (jd jdt_Qu_answer 34 rfl) rfl) (fun h9 => J_pos h9 ?_) (fun h9 => J_neg h9 ?_)
      · refine J_mono (w_ldc2 C (jd jdt_Qu_answer 39 rfl) jw_1013) ?_
        exact J_some (fun hx => hR (-1000000000000000) q5.2 hx _ _ (jd jdt_Qu_answer 40 rfl) )
      · refine J_mono (w_aload_n C (jd jdt_Qu_answer 35 rfl) rfl) ?_
        refine J_mono (jg_Qu_9 C hp0 (jd jdt_Qu_answer 36 rfl)) ?_
        refine J_bind (fun q10 hq10 => ?_)
        refine J_mono (jc_Qu_56 C (jkf_6_0 hp0) (C_Re_ended l G F (jpf a0 0) (jkf_6_0 hp0) q5.2 hq10) rfl (Nat.le_trans (Nat.le_of_ble_eq_true rfl : 3 + 1 ≤ 92) hD) (jd jdt_Qu_answer 37 rfl)) ?_
        refine J_br (w_if_ne (y := 0) C (jd jdt_Qu_answer 38 rfl) rfl) (fun h11 => J_pos h11 ?_) (fun h11 => J_neg h11 ?_)
        · refine J_mono (w_ldc2 C (jd jdt_Qu_answer 39 rfl) jw_1013) ?_
          exact J_some (fun hx => hR (-1000000000000000) q10.2 hx _ _ (jd jdt_Qu_answer 40 rfl) )
        · refine J_mono (w_iload_n C (jd jdt_Qu_answer 41 rfl) rfl) ?_
          refine J_mono (w_iconst_2 C (jd jdt_Qu_answer 42 rfl)) ?_
          refine J_br (w_icmp_gt C (jd jdt_Qu_answer 43 rfl) rfl) (fun h12 => J_pos h12 ?_) (fun h12 => J_neg h12 ?_)
          · refine J_mono (w_aload_n C (jd jdt_Qu_answer 48 rfl) rfl) ?_
            refine J_mono (w_iload_n C (jd jdt_Qu_answer 49 rfl) rfl) ?_
            refine J_bind (fun q13 hq13 => ?_)
            refine J_mono (jc_Qu_63 C hp0 (C_Qu_tellSum l G F a0 q1 hp0 q10.2 hq13) rfl (Nat.le_trans (Nat.le_of_ble_eq_true rfl : 7 + 1 ≤ 92) hD) (jd jdt_Qu_answer 50 rfl)) ?_
            exact J_some (fun hx => hR q13 q10.2 hx _ _ (jd jdt_Qu_answer 51 rfl) )
          · refine J_mono (w_aload_n C (jd jdt_Qu_answer 44 rfl) rfl) ?_
            refine J_mono (w_iload_n C (jd jdt_Qu_answer 45 rfl) rfl) ?_
            refine J_bind (fun q14 hq14 => ?_)
            refine J_mono (jc_Qu_59 C hp0 (C_Qu_tellTest l G F a0 q1 hp0 q10.2 hq14) rfl (Nat.le_trans (Nat.le_of_ble_eq_true rfl : 2 + 1 ≤ 92) hD) (jd jdt_Qu_answer 46 rfl)) ?_
            refine J_mono (w_goto C (jd jdt_Qu_answer 47 rfl) rfl) ?_
            exact J_some (fun hx => hR q14 q10.2 hx _ _ (jd jdt_Qu_answer 51 rfl) )
end
theorem C_Qu_answer (l : Launch) (G : JG) (F : jF G = false) (a0 : Nat) (a1 : Nat) (hp0 : jkd a0 6) (hp1 : jkd a1 1) (M : SM) {q : (Int64 × SM)} (hf : f_Qu_answer a0 a1 M = some q) : jMet l jy_Qu_answer jb_Qu_answer 4 (some FieldType.long) 92 0 0 G [.ref a0, .ref a1] jN0 (jce G M) (some (.long q.1)) jN0 (jce G q.2) :=
  j_met jo_Qu_answer (by decide) (Nat.le_of_ble_eq_true rfl) (fun p e s m args below meth c C hr hm => K_Qu_answer C F (Nat.le_refl _) a0 a1 hp0 hp1 M (fun t => t = q) (fun v M' hX pc ls hd => by cases hX; exact w_lret C hr hd) _ hf rfl)
def f_Sp_ask (a0 : Nat) (M : SM) : Option (Int64 × SM) := if (M.1 (jop (M.1 a0 8)) 1) = 0 then (some ((-1000000000000000), sI M (jpf a0 0) 1 0)) else ((f_Re_begin (jpf a0 1) M).bind fun q2 => (f_Qu_answer (jpf a0 4) (jop (q2.1 a0 8)) q2).bind fun q3 => some (q3.1, sI q3.2 (jpf a0 0) 1 0))
section
variable {p : Program} {l : Launch} {e : Env} {R : Room} {s : State} {m : MethodId} {args : Array Value} {below : List Frame} {meth : Method} {c : Code} {G : JG} {D : Nat} {Q : State → Prop}
set_option maxHeartbeats 4000000 in
set_option maxRecDepth 20000 in
theorem K_Sp_ask (C : jCx p R s m args meth c G jb_Sp_ask 3 D "SluicePit") (F : jF G = false) (hD : 93 ≤ D) (a0 : Nat) (hp0 : jkd a0 11) (M : SM) (X : (Int64 × SM) → Prop) (hR : ∀ v M', X (v, M') → ∀ (pc : Nat) (ls : List (Option Value)), decode jb_Sp_ask pc = .ok (.lreturn, 1) → Wk p l e R s m args below meth c G 3 Q 0 0 jN0 (jce G M') pc ls [.long v]) : J X (f_Sp_ask a0 M) (Wk p l e R s m args below meth c G 3 Q 0 0 jN0 (jce G M) 0 [some (.ref a0), none, none] []) := by
  unfold f_Sp_ask
  refine J_mono (w_aload_n C (jd jdt_Sp_ask 0 rfl) rfl) ?_
  refine J_mono (jg_Sp_37 C hp0 (jd jdt_Sp_ask 1 rfl)) ?_
  refine J_mono (jg_Sp_132 C (jop_kd _) (jd jdt_Sp_ask 2 rfl)) ?_
  refine J_br (w_if_ne (y := 0) C (jd jdt_Sp_ask 3 rfl) rfl) (fun h1 => J_pos h1 ?_) (fun h1 => J_neg h1 ?_)
  · refine J_mono (w_aload_n C (jd jdt_Sp_ask 4 rfl) rfl) ?_
    refine J_mono (jg_Sp_12 C hp0 (jd jdt_Sp_ask 5 rfl)) ?_
    refine J_mono (w_iconst_0 C (jd jdt_Sp_ask 6 rfl)) ?_
    refine J_mono (jp_Sp_102 C F (jkf_11_0 hp0) (jd jdt_Sp_ask 7 rfl)) ?_
    refine J_mono (w_ldc2 C (jd jdt_Sp_ask 8 rfl) jw_1005) ?_
    exact J_some (fun hx => hR (-1000000000000000) (sI M (jpf a0 0) 1 0) hx _ _ (jd jdt_Sp_ask 9 rfl) )
  · refine J_mono (w_aload_n C (jd jdt_Sp_ask 10 rfl) rfl) ?_
    refine J_mono (jg_Sp_21 C hp0 (jd jdt_Sp_ask 11 rfl)) ?_
    refine J_bind (fun q2 hq2 => ?_)
    refine J_mono (jc_Sp_109 C (jkf_11_1 hp0) (C_Re_begin l G F (jpf a0 1) (jkf_11_1 hp0) M hq2) rfl (Nat.le_trans (Nat.le_of_ble_eq_true rfl : 3 + 1 ≤ 93) hD) (jd jdt_Sp_ask 12 rfl)) ?_
    refine J_mono (w_aload_n C (jd jdt_Sp_ask 13 rfl) rfl) ?_
    refine J_mono (jg_Sp_79 C hp0 (jd jdt_Sp_ask 14 rfl)) ?_
    refine J_mono (w_aload_n C (jd jdt_Sp_ask 15 rfl) rfl) ?_
    refine J_mono (jg_Sp_37 C hp0 (jd jdt_Sp_ask 16 rfl)) ?_
    refine J_bind (fun q3 hq3 => ?_)
    refine J_mono (jc_Sp_301 C (jkf_11_4 hp0) (C_Qu_answer l G F (jpf a0 4) (jop (q2.1 a0 8)) (jkf_11_4 hp0) (jop_kd _) q2 hq3) rfl (Nat.le_trans (Nat.le_of_ble_eq_true rfl : 92 + 1 ≤ 93) hD) (jd jdt_Sp_ask 17 rfl)) ?_
    refine J_mono (w_lstore_n (ls' := [some (.ref a0), some (.long q3.1), none]) C (jd jdt_Sp_ask 18 rfl) (by decide) rfl rfl) ?_
    refine J_mono (w_aload_n C (jd jdt_Sp_ask 19 rfl) rfl) ?_
    refine J_mono (jg_Sp_12 C hp0 (jd jdt_Sp_ask 20 rfl)) ?_
    refine J_mono (w_iconst_0 C (jd jdt_Sp_ask 21 rfl)) ?_
    refine J_mono (jp_Sp_102 C F (jkf_11_0 hp0) (jd jdt_Sp_ask 22 rfl)) ?_
    refine J_mono (w_lload_n C (jd jdt_Sp_ask 23 rfl) rfl) ?_
    exact J_some (fun hx => hR q3.1 (sI q3.2 (jpf a0 0) 1 0) hx _ _ (jd jdt_Sp_ask 24 rfl) )
end
theorem C_Sp_ask (l : Launch) (G : JG) (F : jF G = false) (a0 : Nat) (hp0 : jkd a0 11) (M : SM) {q : (Int64 × SM)} (hf : f_Sp_ask a0 M = some q) : jMet l jy_Sp_ask jb_Sp_ask 3 (some FieldType.long) 93 0 0 G [.ref a0] jN0 (jce G M) (some (.long q.1)) jN0 (jce G q.2) :=
  j_met jo_Sp_ask (by decide) (Nat.le_of_ble_eq_true rfl) (fun p e s m args below meth c C hr hm => K_Sp_ask C F (Nat.le_refl _) a0 hp0 M (fun t => t = q) (fun v M' hX pc ls hd => by cases hX; exact w_lret C hr hd) _ hf rfl)
def lp_Sp_check_6 (y0 : Nat) (y1 : Int32) (M : SM) : Nat → Int32 → Int32 → Option (Int32)
  | 0, _, _ => none
  | n + 1, x2, x3 => if x3 < y1 then (if x3 < (nI (jln y0)) then ((aI M y0 x3).bind fun v3 => lp_Sp_check_6 y0 y1 M n (((3 * x2) + v3) - ((3 * x2) + v3) / 251 * 251) (x3 + 1)) else (some x2)) else (some x2)
def f_Sp_check (a0 : Nat) (a1 : Int32) (M : SM) : Option Int32 := (lp_Sp_check_6 a0 a1 M jfuel 149 0).bind fun q4 => some q4
section
variable {p : Program} {l : Launch} {e : Env} {R : Room} {s : State} {m : MethodId} {args : Array Value} {below : List Frame} {meth : Method} {c : Code} {G : JG} {D : Nat} {Q : State → Prop}
set_option maxHeartbeats 4000000 in
set_option maxRecDepth 20000 in
theorem K_Sp_check (C : jCx p R s m args meth c G jb_Sp_check 4 D "SluicePit") (F : jF G = false) (hD : 1 ≤ D) (a0 : Nat) (a1 : Int32) (hp0 : jkd a0 100) (M : SM) (X : Int32 → Prop) (hR : ∀ v, X v → ∀ (pc : Nat) (ls : List (Option Value)), decode jb_Sp_check pc = .ok (.ireturn, 1) → narrow FieldType.int (.int v) = .int v → Wk p l e R s m args below meth c G 4 Q 0 0 jN0 (jce G M) pc ls [.int v]) : J X (f_Sp_check a0 a1 M) (Wk p l e R s m args below meth c G 4 Q 0 0 jN0 (jce G M) 0 [some (.ref a0), some (.int a1), none, none] []) := by
  unfold f_Sp_check
  refine J_mono (w_sipush_149 C (jd jdt_Sp_check 0 rfl)) ?_
  refine J_mono (w_istore_n (ls' := [some (.ref a0), some (.int a1), some (.int 149), none]) C (jd jdt_Sp_check 1 rfl) (by decide) rfl rfl) ?_
  refine J_mono (w_iconst_0 C (jd jdt_Sp_check 2 rfl)) ?_
  refine J_mono (w_istore_n (ls' := [some (.ref a0), some (.int a1), some (.int 149), some (.int 0)]) C (jd jdt_Sp_check 3 rfl) (by decide) rfl rfl) ?_
  have L6 : ∀ (y0 : Nat) (y1 : Int32) (hy0 : jkd y0 100) (n : Nat) (x2 : Int32) (x3 : Int32), J (fun (q4 : Int32) => Wk p l e R s m args below meth c G 4 Q 0 0 jN0 (jce G M) 35 [none, none, some (.int q4), none] []) (lp_Sp_check_6 y0 y1 M n x2 x3) (Wk p l e R s m args below meth c G 4 Q 0 0 jN0 (jce G M) 6 [some (.ref y0), some (.int y1), some (.int x2), some (.int x3)] []) := by
    intro y0 y1 hy0 n
    induction n with
    | zero => intro x2 x3; exact J_none
    | succ n ih =>
      intro x2 x3
      unfold lp_Sp_check_6
      refine J_mono (w_iload_n C (jd jdt_Sp_check 4 rfl) rfl) ?_
      refine J_mono (w_iload_n C (jd jdt_Sp_check 5 rfl) rfl) ?_
      refine J_br (w_icmp_ge C (jd jdt_Sp_check 6 rfl) rfl) (fun h1 => J_pos h1 ?_) (fun h1 => J_neg h1 ?_)
      · refine J_mono (w_iload_n C (jd jdt_Sp_check 7 rfl) rfl) ?_
        refine J_mono (w_aload_n C (jd jdt_Sp_check 8 rfl) rfl) ?_
        refine J_mono (w_alen C (.inl hy0) (jd jdt_Sp_check 9 rfl)) ?_
        refine J_br (w_icmp_ge C (jd jdt_Sp_check 10 rfl) rfl) (fun h2 => J_pos h2 ?_) (fun h2 => J_neg h2 ?_)
        · refine J_mono (w_iconst_3 C (jd jdt_Sp_check 11 rfl)) ?_
          refine J_mono (w_iload_n C (jd jdt_Sp_check 12 rfl) rfl) ?_
          refine J_mono (w_imul C (jd jdt_Sp_check 13 rfl)) ?_
          refine J_mono (w_aload_n C (jd jdt_Sp_check 14 rfl) rfl) ?_
          refine J_mono (w_iload_n C (jd jdt_Sp_check 15 rfl) rfl) ?_
          refine J_bind (fun v3 hv3 => ?_)
          refine J_mono (w_iald C hy0 hv3 (jd jdt_Sp_check 16 rfl)) ?_
          refine J_mono (w_iadd C (jd jdt_Sp_check 17 rfl)) ?_
          refine J_mono (w_sipush_251 C (jd jdt_Sp_check 18 rfl)) ?_
          refine J_mono (w_irem C (jd jdt_Sp_check 19 rfl) (by decide)) ?_
          refine J_mono (w_istore_n (ls' := [some (.ref y0), some (.int y1), some (.int (((3 * x2) + v3) - ((3 * x2) + v3) / 251 * 251)), some (.int x3)]) C (jd jdt_Sp_check 20 rfl) (by decide) rfl rfl) ?_
          refine J_mono (w_iinc (v := x3 + 1) (ls' := [some (.ref y0), some (.int y1), some (.int (((3 * x2) + v3) - ((3 * x2) + v3) / 251 * 251)), some (.int (x3 + 1))]) C (jd jdt_Sp_check 21 rfl) rfl rfl (by decide) rfl rfl) ?_
          refine J_mono (w_goto C (jd jdt_Sp_check 22 rfl) rfl) ?_
          exact J_sub (ih (((3 * x2) + v3) - ((3 * x2) + v3) / 251 * 251) (x3 + 1)) ⟨rfl, rfl, rfl, rfl, trivial⟩
        · exact J_some (fun hx => Wk_sb hx ⟨rfl, trivial⟩)
      · exact J_some (fun hx => Wk_sb hx ⟨rfl, trivial⟩)
  refine J_seq (fun (q4 : Int32) => Wk p l e R s m args below meth c G 4 Q 0 0 jN0 (jce G M) 35 [none, none, some (.int q4), none] []) (J_sub (L6 a0 a1 hp0 jfuel 149 0) ⟨rfl, rfl, rfl, rfl, trivial⟩) (fun q4 hq4 => ?_)
  refine J_mono (w_iload_n C (jd jdt_Sp_check 23 rfl) rfl) ?_
  exact J_some (fun hx => hR q4 hx _ _ (jd jdt_Sp_check 24 rfl) rfl)
end
theorem C_Sp_check (l : Launch) (G : JG) (F : jF G = false) (a0 : Nat) (a1 : Int32) (hp0 : jkd a0 100) (M : SM) {q : Int32} (hf : f_Sp_check a0 a1 M = some q) : jMet l jy_Sp_check jb_Sp_check 4 (some FieldType.int) 1 0 0 G [.ref a0, .int a1] jN0 (jce G M) (some (.int q)) jN0 (jce G M) :=
  j_met jo_Sp_check (by decide) (Nat.le_of_ble_eq_true rfl) (fun p e s m args below meth c C hr hm => K_Sp_check C F (Nat.le_refl _) a0 a1 hp0 M (fun t => t = q) (fun v hX pc ls hd hn => by cases hX; exact w_iret C hr hn hd) _ hf rfl)
def lp_Sp_image_42 (y0 : Nat) (y2 : Int32) (y3 : Int32) : Nat → Int32 → Int32 → SM → Option (Int32 × SM)
  | 0, _, _, _ => none
  | n + 1, x1, x4, M => if y3 < x4 then (some (x1, M)) else ((f_Pa_act (jpf (jop (M.1 y0 8)) 13) y2 x4 M).bind fun q5 => (f_Sp_put (jpf y0 13) x1 q5 M).bind fun q6 => lp_Sp_image_42 y0 y2 y3 n (x1 + 1) (x4 + 1) q6)
def lp_Sp_image_4 (y0 : Nat) : Nat → Int32 → Int32 → SM → Option (Int32 × SM)
  | 0, _, _, _ => none
  | n + 1, x1, x2, M => if x2 < (M.1 (jop (M.1 y0 8)) 4) then ((f_Pa_size (jpf (jop (M.1 y0 8)) 13) x2 M).bind fun q2 => (f_Sp_put (jpf y0 13) x1 q2 M).bind fun q3 => (lp_Sp_image_42 y0 x2 q2 jfuel (x1 + 1) 1 q3).bind fun q7 => lp_Sp_image_4 y0 n q7.1 (x2 + 1) q7.2) else (some (x1, M))
def f_Sp_image (a0 : Nat) (M : SM) : Option (Int32 × SM) := (lp_Sp_image_4 a0 jfuel 0 0 M).bind fun q8 => (f_Sp_check (jpf a0 13) q8.1 q8.2).bind fun q9 => (f_Sp_put (jpf a0 13) q8.1 q9 q8.2).bind fun q10 => some ((sI q10 a0 14 (q8.1 + 1)).1 a0 14, sI q10 a0 14 (q8.1 + 1))
section
variable {p : Program} {l : Launch} {e : Env} {R : Room} {s : State} {m : MethodId} {args : Array Value} {below : List Frame} {meth : Method} {c : Code} {G : JG} {D : Nat} {Q : State → Prop}
set_option maxHeartbeats 4000000 in
set_option maxRecDepth 20000 in
theorem K_Sp_image (C : jCx p R s m args meth c G jb_Sp_image 5 D "SluicePit") (F : jF G = false) (hD : 3 ≤ D) (a0 : Nat) (hp0 : jkd a0 11) (M : SM) (X : (Int32 × SM) → Prop) (hR : ∀ v M', X (v, M') → ∀ (pc : Nat) (ls : List (Option Value)), decode jb_Sp_image pc = .ok (.ireturn, 1) → narrow FieldType.int (.int v) = .int v → Wk p l e R s m args below meth c G 5 Q 0 0 jN0 (jce G M') pc ls [.int v]) : J X (f_Sp_image a0 M) (Wk p l e R s m args below meth c G 5 Q 0 0 jN0 (jce G M) 0 [some (.ref a0), none, none, none, none] []) := by
  unfold f_Sp_image
  refine J_mono (w_iconst_0 C (jd jdt_Sp_image 0 rfl)) ?_
  refine J_mono (w_istore_n (ls' := [some (.ref a0), some (.int 0), none, none, none]) C (jd jdt_Sp_image 1 rfl) (by decide) rfl rfl) ?_
  refine J_mono (w_iconst_0 C (jd jdt_Sp_image 2 rfl)) ?_
  refine J_mono (w_istore_n (ls' := [some (.ref a0), some (.int 0), some (.int 0), none, none]) C (jd jdt_Sp_image 3 rfl) (by decide) rfl rfl) ?_
  have L4 : ∀ (y0 : Nat) (hy0 : jkd y0 11) (n : Nat) (x1 : Int32) (x2 : Int32) (M : SM), J (fun (q8 : Int32 × SM) => Wk p l e R s m args below meth c G 5 Q 0 0 jN0 (jce G q8.2) 84 [some (.ref y0), some (.int q8.1), none, none, none] []) (lp_Sp_image_4 y0 n x1 x2 M) (Wk p l e R s m args below meth c G 5 Q 0 0 jN0 (jce G M) 4 [some (.ref y0), some (.int x1), some (.int x2), none, none] []) := by
    intro y0 hy0 n
    induction n with
    | zero => intro x1 x2 M; exact J_none
    | succ n ih =>
      intro x1 x2 M
      unfold lp_Sp_image_4
      refine J_mono (w_iload_n C (jd jdt_Sp_image 4 rfl) rfl) ?_
      refine J_mono (w_aload_n C (jd jdt_Sp_image 5 rfl) rfl) ?_
      refine J_mono (jg_Sp_37 C hy0 (jd jdt_Sp_image 6 rfl)) ?_
      refine J_mono (jg_Sp_135 C (jop_kd _) (jd jdt_Sp_image 7 rfl)) ?_
      refine J_br (w_icmp_ge C (jd jdt_Sp_image 8 rfl) rfl) (fun h1 => J_pos h1 ?_) (fun h1 => J_neg h1 ?_)
      · refine J_mono (w_aload_n C (jd jdt_Sp_image 9 rfl) rfl) ?_
        refine J_mono (jg_Sp_37 C hy0 (jd jdt_Sp_image 10 rfl)) ?_
        refine J_mono (jg_Sp_163 C (jop_kd _) (jd jdt_Sp_image 11 rfl)) ?_
        refine J_mono (w_iload_n C (jd jdt_Sp_image 12 rfl) rfl) ?_
        refine J_bind (fun q2 hq2 => ?_)
        refine J_mono (jc_Sp_193 C (jkf_1_13 (jop_kd _)) (C_Pa_size l G F (jpf (jop (M.1 y0 8)) 13) x2 (jkf_1_13 (jop_kd _)) M hq2) rfl (Nat.le_trans (Nat.le_of_ble_eq_true rfl : 2 + 1 ≤ 3) hD) (jd jdt_Sp_image 13 rfl)) ?_
        refine J_mono (w_istore_n (ls' := [some (.ref y0), some (.int x1), some (.int x2), some (.int q2), none]) C (jd jdt_Sp_image 14 rfl) (by decide) rfl rfl) ?_
        refine J_mono (w_aload_n C (jd jdt_Sp_image 15 rfl) rfl) ?_
        refine J_mono (jg_Sp_95 C hy0 (jd jdt_Sp_image 16 rfl)) ?_
        refine J_mono (w_iload_n C (jd jdt_Sp_image 17 rfl) rfl) ?_
        refine J_mono (w_iload_n C (jd jdt_Sp_image 18 rfl) rfl) ?_
        refine J_bind (fun q3 hq3 => ?_)
        refine J_mono (jc_Sp_305 C (C_Sp_put l G F (jpf y0 13) x1 q2 (jkf_11_13 hy0) M hq3) rfl (Nat.le_trans (Nat.le_of_ble_eq_true rfl : 1 + 1 ≤ 3) hD) (jd jdt_Sp_image 19 rfl)) ?_
        refine J_mono (w_iinc (v := x1 + 1) (ls' := [some (.ref y0), some (.int (x1 + 1)), some (.int x2), some (.int q2), none]) C (jd jdt_Sp_image 20 rfl) rfl rfl (by decide) rfl rfl) ?_
        refine J_mono (w_iconst_1 C (jd jdt_Sp_image 21 rfl)) ?_
        refine J_mono (w_istore (ls' := [some (.ref y0), some (.int (x1 + 1)), some (.int x2), some (.int q2), some (.int 1)]) C (jd jdt_Sp_image 22 rfl) (by decide) rfl rfl) ?_
        have L42 : ∀ (y0 : Nat) (y2 : Int32) (y3 : Int32) (hy0 : jkd y0 11) (n : Nat) (x1 : Int32) (x4 : Int32) (M : SM), J (fun (q7 : Int32 × SM) => Wk p l e R s m args below meth c G 5 Q 0 0 jN0 (jce G q7.2) 78 [some (.ref y0), some (.int q7.1), some (.int y2), none, none] []) (lp_Sp_image_42 y0 y2 y3 n x1 x4 M) (Wk p l e R s m args below meth c G 5 Q 0 0 jN0 (jce G M) 42 [some (.ref y0), some (.int x1), some (.int y2), some (.int y3), some (.int x4)] []) := by
          intro y0 y2 y3 hy0 n
          induction n with
          | zero => intro x1 x4 M; exact J_none
          | succ n ih =>
            intro x1 x4 M
            unfold lp_Sp_image_42
            refine J_mono (w_iload C (jd jdt_Sp_image 23 rfl) rfl) ?_
            refine J_mono (w_iload_n C (jd jdt_Sp_image 24 rfl) rfl) ?_
            refine J_br (w_icmp_gt C (jd jdt_Sp_image 25 rfl) rfl) (fun h4 => J_pos h4 ?_) (fun h4 => J_neg h4 ?_)
            · exact J_some (fun hx => Wk_sb hx ⟨rfl, rfl, rfl, trivial⟩)
            · refine J_mono (w_aload_n C (jd jdt_Sp_image 26 rfl) rfl) ?_
              refine J_mono (jg_Sp_95 C hy0 (jd jdt_Sp_image 27 rfl)) ?_
              refine J_mono (w_iload_n C (jd jdt_Sp_image 28 rfl) rfl) ?_
              refine J_mono (w_aload_n C (jd jdt_Sp_image 29 rfl) rfl) ?_
              refine J_mono (jg_Sp_37 C hy0 (jd jdt_Sp_image 30 rfl)) ?_
              refine J_mono (jg_Sp_163 C (jop_kd _) (jd jdt_Sp_image 31 rfl)) ?_
              refine J_mono (w_iload_n C (jd jdt_Sp_image 32 rfl) rfl) ?_
              refine J_mono (w_iload C (jd jdt_Sp_image 33 rfl) rfl) ?_
              refine J_bind (fun q5 hq5 => ?_)
              refine J_mono (jc_Sp_202 C (jkf_1_13 (jop_kd _)) (C_Pa_act l G F (jpf (jop (M.1 y0 8)) 13) y2 x4 (jkf_1_13 (jop_kd _)) M hq5) rfl (Nat.le_trans (Nat.le_of_ble_eq_true rfl : 2 + 1 ≤ 3) hD) (jd jdt_Sp_image 34 rfl)) ?_
              refine J_bind (fun q6 hq6 => ?_)
              refine J_mono (jc_Sp_305 C (C_Sp_put l G F (jpf y0 13) x1 q5 (jkf_11_13 hy0) M hq6) rfl (Nat.le_trans (Nat.le_of_ble_eq_true rfl : 1 + 1 ≤ 3) hD) (jd jdt_Sp_image 35 rfl)) ?_
              refine J_mono (w_iinc (v := x1 + 1) (ls' := [some (.ref y0), some (.int (x1 + 1)), some (.int y2), some (.int y3), some (.int x4)]) C (jd jdt_Sp_image 36 rfl) rfl rfl (by decide) rfl rfl) ?_
              refine J_mono (w_iinc (v := x4 + 1) (ls' := [some (.ref y0), some (.int (x1 + 1)), some (.int y2), some (.int y3), some (.int (x4 + 1))]) C (jd jdt_Sp_image 37 rfl) rfl rfl (by decide) rfl rfl) ?_
              refine J_mono (w_goto C (jd jdt_Sp_image 38 rfl) rfl) ?_
              exact J_sub (ih (x1 + 1) (x4 + 1) q6) ⟨rfl, rfl, rfl, rfl, rfl, trivial⟩
        refine J_seq (fun (q7 : Int32 × SM) => Wk p l e R s m args below meth c G 5 Q 0 0 jN0 (jce G q7.2) 78 [some (.ref y0), some (.int q7.1), some (.int x2), none, none] []) (J_sub (L42 y0 x2 q2 hy0 jfuel (x1 + 1) 1 q3) ⟨rfl, rfl, rfl, rfl, rfl, trivial⟩) (fun q7 hq7 => ?_)
        refine J_mono (w_iinc (v := x2 + 1) (ls' := [some (.ref y0), some (.int q7.1), some (.int (x2 + 1)), none, none]) C (jd jdt_Sp_image 39 rfl) rfl rfl (by decide) rfl rfl) ?_
        refine J_mono (w_goto C (jd jdt_Sp_image 40 rfl) rfl) ?_
        exact J_sub (ih q7.1 (x2 + 1) q7.2) ⟨rfl, rfl, rfl, trivial⟩
      · exact J_some (fun hx => Wk_sb hx ⟨rfl, rfl, trivial⟩)
  refine J_seq (fun (q8 : Int32 × SM) => Wk p l e R s m args below meth c G 5 Q 0 0 jN0 (jce G q8.2) 84 [some (.ref a0), some (.int q8.1), none, none, none] []) (J_sub (L4 a0 hp0 jfuel 0 0 M) ⟨rfl, rfl, rfl, trivial⟩) (fun q8 hq8 => ?_)
  refine J_mono (w_aload_n C (jd jdt_Sp_image 41 rfl) rfl) ?_
  refine J_mono (jg_Sp_95 C hp0 (jd jdt_Sp_image 42 rfl)) ?_
  refine J_mono (w_iload_n C (jd jdt_Sp_image 43 rfl) rfl) ?_
  refine J_mono (w_aload_n C (jd jdt_Sp_image 44 rfl) rfl) ?_
  refine J_mono (jg_Sp_95 C hp0 (jd jdt_Sp_image 45 rfl)) ?_
  refine J_mono (w_iload_n C (jd jdt_Sp_image 46 rfl) rfl) ?_
  refine J_bind (fun q9 hq9 => ?_)
  refine J_mono (jc_Sp_309 C (C_Sp_check l G F (jpf a0 13) q8.1 (jkf_11_13 hp0) q8.2 hq9) rfl (Nat.le_trans (Nat.le_of_ble_eq_true rfl : 1 + 1 ≤ 3) hD) (jd jdt_Sp_image 47 rfl)) ?_
  refine J_bind (fun q10 hq10 => ?_)
  refine J_mono (jc_Sp_305 C (C_Sp_put l G F (jpf a0 13) q8.1 q9 (jkf_11_13 hp0) q8.2 hq10) rfl (Nat.le_trans (Nat.le_of_ble_eq_true rfl : 1 + 1 ≤ 3) hD) (jd jdt_Sp_image 48 rfl)) ?_
  refine J_mono (w_aload_n C (jd jdt_Sp_image 49 rfl) rfl) ?_
  refine J_mono (w_iload_n C (jd jdt_Sp_image 50 rfl) rfl) ?_
  refine J_mono (w_iconst_1 C (jd jdt_Sp_image 51 rfl)) ?_
  refine J_mono (w_iadd C (jd jdt_Sp_image 52 rfl)) ?_
  refine J_mono (jp_Sp_98 C F hp0 (jd jdt_Sp_image 53 rfl)) ?_
  refine J_mono (w_aload_n C (jd jdt_Sp_image 54 rfl) rfl) ?_
  refine J_mono (jg_Sp_98 C hp0 (jd jdt_Sp_image 55 rfl)) ?_
  exact J_some (fun hx => hR ((sI q10 a0 14 (q8.1 + 1)).1 a0 14) (sI q10 a0 14 (q8.1 + 1)) hx _ _ (jd jdt_Sp_image 56 rfl) rfl)
end
theorem C_Sp_image (l : Launch) (G : JG) (F : jF G = false) (a0 : Nat) (hp0 : jkd a0 11) (M : SM) {q : (Int32 × SM)} (hf : f_Sp_image a0 M = some q) : jMet l jy_Sp_image jb_Sp_image 5 (some FieldType.int) 3 0 0 G [.ref a0] jN0 (jce G M) (some (.int q.1)) jN0 (jce G q.2) :=
  j_met jo_Sp_image (by decide) (Nat.le_of_ble_eq_true rfl) (fun p e s m args below meth c C hr hm => K_Sp_image C F (Nat.le_refl _) a0 hp0 M (fun t => t = q) (fun v M' hX pc ls hd hn => by cases hX; exact w_iret C hr hn hd) _ hf rfl)
def f_Sp_octet (a0 : Nat) (a1 : Int32) (M : SM) : Option Int32 := if a1 < 0 then (some (-1)) else (if a1 < (M.1 a0 14) then ((f_Sp_at (jpf a0 13) a1 M).bind fun q3 => some q3) else (some (-1)))
section
variable {p : Program} {l : Launch} {e : Env} {R : Room} {s : State} {m : MethodId} {args : Array Value} {below : List Frame} {meth : Method} {c : Code} {G : JG} {D : Nat} {Q : State → Prop}
set_option maxHeartbeats 4000000 in
set_option maxRecDepth 20000 in
theorem K_Sp_octet (C : jCx p R s m args meth c G jb_Sp_octet 2 D "SluicePit") (F : jF G = false) (hD : 2 ≤ D) (a0 : Nat) (a1 : Int32) (hp0 : jkd a0 11) (M : SM) (X : Int32 → Prop) (hR : ∀ v, X v → ∀ (pc : Nat) (ls : List (Option Value)), decode jb_Sp_octet pc = .ok (.ireturn, 1) → narrow FieldType.int (.int v) = .int v → Wk p l e R s m args below meth c G 2 Q 0 0 jN0 (jce G M) pc ls [.int v]) : J X (f_Sp_octet a0 a1 M) (Wk p l e R s m args below meth c G 2 Q 0 0 jN0 (jce G M) 0 [some (.ref a0), some (.int a1)] []) := by
  unfold f_Sp_octet
  refine J_mono (w_iload_n C (jd jdt_Sp_octet 0 rfl) rfl) ?_
  refine J_br (w_if_lt (y := 0) C (jd jdt_Sp_octet 1 rfl) rfl) (fun h1 => J_pos h1 ?_) (fun h1 => J_neg h1 ?_)
  · refine J_mono (w_iconst_m1 C (jd jdt_Sp_octet 11 rfl)) ?_
    exact J_some (fun hx => hR (-1) hx _ _ (jd jdt_Sp_octet 12 rfl) rfl)
  · refine J_mono (w_iload_n C (jd jdt_Sp_octet 2 rfl) rfl) ?_
    refine J_mono (w_aload_n C (jd jdt_Sp_octet 3 rfl) rfl) ?_
    refine J_mono (jg_Sp_98 C hp0 (jd jdt_Sp_octet 4 rfl)) ?_
    refine J_br (w_icmp_ge C (jd jdt_Sp_octet 5 rfl) rfl) (fun h2 => J_pos h2 ?_) (fun h2 => J_neg h2 ?_)
    · refine J_mono (w_aload_n C (jd jdt_Sp_octet 6 rfl) rfl) ?_
      refine J_mono (jg_Sp_95 C hp0 (jd jdt_Sp_octet 7 rfl)) ?_
      refine J_mono (w_iload_n C (jd jdt_Sp_octet 8 rfl) rfl) ?_
      refine J_bind (fun q3 hq3 => ?_)
      refine J_mono (jc_Sp_198 C (C_Sp_at l G F (jpf a0 13) a1 (jkf_11_13 hp0) M hq3) rfl (Nat.le_trans (Nat.le_of_ble_eq_true rfl : 1 + 1 ≤ 2) hD) (jd jdt_Sp_octet 9 rfl)) ?_
      refine J_mono (w_goto C (jd jdt_Sp_octet 10 rfl) rfl) ?_
      exact J_some (fun hx => hR q3 hx _ _ (jd jdt_Sp_octet 12 rfl) rfl)
    · refine J_mono (w_iconst_m1 C (jd jdt_Sp_octet 11 rfl)) ?_
      exact J_some (fun hx => hR (-1) hx _ _ (jd jdt_Sp_octet 12 rfl) rfl)
end
theorem C_Sp_octet (l : Launch) (G : JG) (F : jF G = false) (a0 : Nat) (a1 : Int32) (hp0 : jkd a0 11) (M : SM) {q : Int32} (hf : f_Sp_octet a0 a1 M = some q) : jMet l jy_Sp_octet jb_Sp_octet 2 (some FieldType.int) 2 0 0 G [.ref a0, .int a1] jN0 (jce G M) (some (.int q)) jN0 (jce G M) :=
  j_met jo_Sp_octet (by decide) (Nat.le_of_ble_eq_true rfl) (fun p e s m args below meth c C hr hm => K_Sp_octet C F (Nat.le_refl _) a0 a1 hp0 M (fun t => t = q) (fun v hX pc ls hd hn => by cases hX; exact w_iret C hr hn hd) _ hf rfl)
def lp_Sp_isImage_39 (y0 : Nat) (y1 : Int32) (y3 : Int32) (M : SM) : Nat → Int32 → Option ((Unit) ⊕ Int32)
  | 0, _ => none
  | n + 1, x4 => if y3 < x4 then (some (.inl ())) else ((f_Ta_read (jpf y0 0) (y1 + x4) M).bind fun q6 => if q6 < 0 then (some (.inr 0)) else (if 3 < q6 then (some (.inr 0)) else (lp_Sp_isImage_39 y0 y1 y3 M n (x4 + 1))))
def lp_Sp_isImage_4 (y0 : Nat) (M : SM) : Nat → Int32 → Int32 → Option ((Int32) ⊕ Int32)
  | 0, _, _ => none
  | n + 1, x1, x2 => if x2 < (M.1 (jop (M.1 y0 8)) 4) then ((f_Ta_read (jpf y0 0) x1 M).bind fun q2 => if q2 < 0 then (some (.inr 0)) else (if 60 < q2 then (some (.inr 0)) else (jsb (lp_Sp_isImage_39 y0 x1 q2 M jfuel 1) Sum.inr fun q9 => lp_Sp_isImage_4 y0 M n (x1 + (q2 + 1)) (x2 + 1)))) else (some (.inl x1))
def f_Sp_isImage (a0 : Nat) (M : SM) : Option Int32 := jsb (lp_Sp_isImage_4 a0 M jfuel 0 0) id fun q10 => if (M.1 (jpf a0 0) 1) = (q10 + 1) then ((f_Ta_read (jpf a0 0) q10 M).bind fun q12 => (f_Sp_check (jpf (jpf a0 0) 0) q10 M).bind fun q13 => if q12 = q13 then (some 1) else (some 0)) else (some 0)
section
variable {p : Program} {l : Launch} {e : Env} {R : Room} {s : State} {m : MethodId} {args : Array Value} {below : List Frame} {meth : Method} {c : Code} {G : JG} {D : Nat} {Q : State → Prop}
set_option maxHeartbeats 4000000 in
set_option maxRecDepth 20000 in
theorem K_Sp_isImage (C : jCx p R s m args meth c G jb_Sp_isImage 6 D "SluicePit") (F : jF G = false) (hD : 2 ≤ D) (a0 : Nat) (hp0 : jkd a0 11) (M : SM) (X : Int32 → Prop) (hR : ∀ v, X v → ∀ (pc : Nat) (ls : List (Option Value)), decode jb_Sp_isImage pc = .ok (.ireturn, 1) → narrow FieldType.boolean (.int v) = .int v → Wk p l e R s m args below meth c G 6 Q 0 0 jN0 (jce G M) pc ls [.int v]) : J X (f_Sp_isImage a0 M) (Wk p l e R s m args below meth c G 6 Q 0 0 jN0 (jce G M) 0 [some (.ref a0), none, none, none, none, none] []) := by
  unfold f_Sp_isImage
  refine J_mono (w_iconst_0 C (jd jdt_Sp_isImage 0 rfl)) ?_
  refine J_mono (w_istore_n (ls' := [some (.ref a0), some (.int 0), none, none, none, none]) C (jd jdt_Sp_isImage 1 rfl) (by decide) rfl rfl) ?_
  refine J_mono (w_iconst_0 C (jd jdt_Sp_isImage 2 rfl)) ?_
  refine J_mono (w_istore_n (ls' := [some (.ref a0), some (.int 0), some (.int 0), none, none, none]) C (jd jdt_Sp_isImage 3 rfl) (by decide) rfl rfl) ?_
  have L4 : ∀ (y0 : Nat) (hy0 : jkd y0 11) (n : Nat) (x1 : Int32) (x2 : Int32), J (Sum.elim (fun (q10 : Int32) => Wk p l e R s m args below meth c G 6 Q 0 0 jN0 (jce G M) 89 [some (.ref y0), some (.int q10), none, none, none, none] []) X) (lp_Sp_isImage_4 y0 M n x1 x2) (Wk p l e R s m args below meth c G 6 Q 0 0 jN0 (jce G M) 4 [some (.ref y0), some (.int x1), some (.int x2), none, none, none] []) := by
    intro y0 hy0 n
    induction n with
    | zero => intro x1 x2; exact J_none
    | succ n ih =>
      intro x1 x2
      unfold lp_Sp_isImage_4
      refine J_mono (w_iload_n C (jd jdt_Sp_isImage 4 rfl) rfl) ?_
      refine J_mono (w_aload_n C (jd jdt_Sp_isImage 5 rfl) rfl) ?_
      refine J_mono (jg_Sp_37 C hy0 (jd jdt_Sp_isImage 6 rfl)) ?_
      refine J_mono (jg_Sp_135 C (jop_kd _) (jd jdt_Sp_isImage 7 rfl)) ?_
      refine J_br (w_icmp_ge C (jd jdt_Sp_isImage 8 rfl) rfl) (fun h1 => J_pos h1 ?_) (fun h1 => J_neg h1 ?_)
      · refine J_mono (w_aload_n C (jd jdt_Sp_isImage 9 rfl) rfl) ?_
        refine J_mono (jg_Sp_12 C hy0 (jd jdt_Sp_isImage 10 rfl)) ?_
        refine J_mono (w_iload_n C (jd jdt_Sp_isImage 11 rfl) rfl) ?_
        refine J_bind (fun q2 hq2 => ?_)
        refine J_mono (jc_Sp_272 C (jkf_11_0 hy0) (C_Ta_read l G F (jpf y0 0) x1 (jkf_11_0 hy0) M hq2) rfl (Nat.le_trans (Nat.le_of_ble_eq_true rfl : 1 + 1 ≤ 2) hD) (jd jdt_Sp_isImage 12 rfl)) ?_
        refine J_mono (w_istore_n (ls' := [some (.ref y0), some (.int x1), some (.int x2), some (.int q2), none, none]) C (jd jdt_Sp_isImage 13 rfl) (by decide) rfl rfl) ?_
        refine J_mono (w_iload_n C (jd jdt_Sp_isImage 14 rfl) rfl) ?_
        refine J_br (w_if_lt (y := 0) C (jd jdt_Sp_isImage 15 rfl) rfl) (fun h3 => J_pos h3 ?_) (fun h3 => J_neg h3 ?_)
        · refine J_mono (w_iconst_0 C (jd jdt_Sp_isImage 19 rfl)) ?_
          exact J_some (fun hx => hR 0 hx _ _ (jd jdt_Sp_isImage 20 rfl) rfl)
        · refine J_mono (w_iload_n C (jd jdt_Sp_isImage 16 rfl) rfl) ?_
          refine J_mono (w_bipush_60 C (jd jdt_Sp_isImage 17 rfl)) ?_
          refine J_br (w_icmp_le C (jd jdt_Sp_isImage 18 rfl) rfl) (fun h4 => J_pos h4 ?_) (fun h4 => J_neg h4 ?_)
          · refine J_mono (w_iconst_0 C (jd jdt_Sp_isImage 19 rfl)) ?_
            exact J_some (fun hx => hR 0 hx _ _ (jd jdt_Sp_isImage 20 rfl) rfl)
          · refine J_mono (w_iconst_1 C (jd jdt_Sp_isImage 21 rfl)) ?_
            refine J_mono (w_istore (ls' := [some (.ref y0), some (.int x1), some (.int x2), some (.int q2), some (.int 1), none]) C (jd jdt_Sp_isImage 22 rfl) (by decide) rfl rfl) ?_
            have L39 : ∀ (y0 : Nat) (y1 : Int32) (y2 : Int32) (y3 : Int32) (hy0 : jkd y0 11) (n : Nat) (x4 : Int32), J (Sum.elim (fun (q9 : Unit) => Wk p l e R s m args below meth c G 6 Q 0 0 jN0 (jce G M) 77 [some (.ref y0), some (.int y1), some (.int y2), some (.int y3), none, none] []) X) (lp_Sp_isImage_39 y0 y1 y3 M n x4) (Wk p l e R s m args below meth c G 6 Q 0 0 jN0 (jce G M) 39 [some (.ref y0), some (.int y1), some (.int y2), some (.int y3), some (.int x4), none] []) := by
              intro y0 y1 y2 y3 hy0 n
              induction n with
              | zero => intro x4; exact J_none
              | succ n ih =>
                intro x4
                unfold lp_Sp_isImage_39
                refine J_mono (w_iload C (jd jdt_Sp_isImage 23 rfl) rfl) ?_
                refine J_mono (w_iload_n C (jd jdt_Sp_isImage 24 rfl) rfl) ?_
                refine J_br (w_icmp_gt C (jd jdt_Sp_isImage 25 rfl) rfl) (fun h5 => J_pos h5 ?_) (fun h5 => J_neg h5 ?_)
                · exact J_some (fun hx => Wk_sb hx ⟨rfl, rfl, rfl, rfl, trivial⟩)
                · refine J_mono (w_aload_n C (jd jdt_Sp_isImage 26 rfl) rfl) ?_
                  refine J_mono (jg_Sp_12 C hy0 (jd jdt_Sp_isImage 27 rfl)) ?_
                  refine J_mono (w_iload_n C (jd jdt_Sp_isImage 28 rfl) rfl) ?_
                  refine J_mono (w_iload C (jd jdt_Sp_isImage 29 rfl) rfl) ?_
                  refine J_mono (w_iadd C (jd jdt_Sp_isImage 30 rfl)) ?_
                  refine J_bind (fun q6 hq6 => ?_)
                  refine J_mono (jc_Sp_272 C (jkf_11_0 hy0) (C_Ta_read l G F (jpf y0 0) (y1 + x4) (jkf_11_0 hy0) M hq6) rfl (Nat.le_trans (Nat.le_of_ble_eq_true rfl : 1 + 1 ≤ 2) hD) (jd jdt_Sp_isImage 31 rfl)) ?_
                  refine J_mono (w_istore (ls' := [some (.ref y0), some (.int y1), some (.int y2), some (.int y3), some (.int x4), some (.int q6)]) C (jd jdt_Sp_isImage 32 rfl) (by decide) rfl rfl) ?_
                  refine J_mono (w_iload C (jd jdt_Sp_isImage 33 rfl) rfl) ?_
                  refine J_br (w_if_lt (y := 0) C (jd jdt_Sp_isImage 34 rfl) rfl) (fun h7 => J_pos h7 ?_) (fun h7 => J_neg h7 ?_)
                  · refine J_mono (w_iconst_0 C (jd jdt_Sp_isImage 38 rfl)) ?_
                    exact J_some (fun hx => hR 0 hx _ _ (jd jdt_Sp_isImage 39 rfl) rfl)
                  · refine J_mono (w_iload C (jd jdt_Sp_isImage 35 rfl) rfl) ?_
                    refine J_mono (w_iconst_3 C (jd jdt_Sp_isImage 36 rfl)) ?_
                    refine J_br (w_icmp_le C (jd jdt_Sp_isImage 37 rfl) rfl) (fun h8 => J_pos h8 ?_) (fun h8 => J_neg h8 ?_)
                    · refine J_mono (w_iconst_0 C (jd jdt_Sp_isImage 38 rfl)) ?_
                      exact J_some (fun hx => hR 0 hx _ _ (jd jdt_Sp_isImage 39 rfl) rfl)
                    · refine J_mono (w_iinc (v := x4 + 1) (ls' := [some (.ref y0), some (.int y1), some (.int y2), some (.int y3), some (.int (x4 + 1)), some (.int q6)]) C (jd jdt_Sp_isImage 40 rfl) rfl rfl (by decide) rfl rfl) ?_
                      refine J_mono (w_goto C (jd jdt_Sp_isImage 41 rfl) rfl) ?_
                      exact J_sub (ih (x4 + 1)) ⟨rfl, rfl, rfl, rfl, rfl, trivial⟩
            refine J_sb (fun (q9 : Unit) => Wk p l e R s m args below meth c G 6 Q 0 0 jN0 (jce G M) 77 [some (.ref y0), some (.int x1), some (.int x2), some (.int q2), none, none] []) (J_sub (L39 y0 x1 x2 q2 hy0 jfuel 1) ⟨rfl, rfl, rfl, rfl, rfl, trivial⟩) (fun q9 => ?_)
            refine J_mono (w_iload_n C (jd jdt_Sp_isImage 42 rfl) rfl) ?_
            refine J_mono (w_iload_n C (jd jdt_Sp_isImage 43 rfl) rfl) ?_
            refine J_mono (w_iconst_1 C (jd jdt_Sp_isImage 44 rfl)) ?_
            refine J_mono (w_iadd C (jd jdt_Sp_isImage 45 rfl)) ?_
            refine J_mono (w_iadd C (jd jdt_Sp_isImage 46 rfl)) ?_
            refine J_mono (w_istore_n (ls' := [some (.ref y0), some (.int (x1 + (q2 + 1))), some (.int x2), some (.int q2), none, none]) C (jd jdt_Sp_isImage 47 rfl) (by decide) rfl rfl) ?_
            refine J_mono (w_iinc (v := x2 + 1) (ls' := [some (.ref y0), some (.int (x1 + (q2 + 1))), some (.int (x2 + 1)), some (.int q2), none, none]) C (jd jdt_Sp_isImage 48 rfl) rfl rfl (by decide) rfl rfl) ?_
            refine J_mono (w_goto C (jd jdt_Sp_isImage 49 rfl) rfl) ?_
            exact J_sub (ih (x1 + (q2 + 1)) (x2 + 1)) ⟨rfl, rfl, rfl, trivial⟩
      · exact J_some (fun hx => Wk_sb hx ⟨rfl, rfl, trivial⟩)
  refine J_sb (fun (q10 : Int32) => Wk p l e R s m args below meth c G 6 Q 0 0 jN0 (jce G M) 89 [some (.ref a0), some (.int q10), none, none, none, none] []) (J_sub (L4 a0 hp0 jfuel 0 0) ⟨rfl, rfl, rfl, trivial⟩) (fun q10 => ?_)
  refine J_mono (w_aload_n C (jd jdt_Sp_isImage 50 rfl) rfl) ?_
  refine J_mono (jg_Sp_12 C hp0 (jd jdt_Sp_isImage 51 rfl)) ?_
  refine J_mono (jg_Sp_102 C (jkf_11_0 hp0) (jd jdt_Sp_isImage 52 rfl)) ?_
  refine J_mono (w_iload_n C (jd jdt_Sp_isImage 53 rfl) rfl) ?_
  refine J_mono (w_iconst_1 C (jd jdt_Sp_isImage 54 rfl)) ?_
  refine J_mono (w_iadd C (jd jdt_Sp_isImage 55 rfl)) ?_
  refine J_br (w_icmp_ne C (jd jdt_Sp_isImage 56 rfl) rfl) (fun h11 => J_pos h11 ?_) (fun h11 => J_neg h11 ?_)
  · refine J_mono (w_aload_n C (jd jdt_Sp_isImage 57 rfl) rfl) ?_
    refine J_mono (jg_Sp_12 C hp0 (jd jdt_Sp_isImage 58 rfl)) ?_
    refine J_mono (w_iload_n C (jd jdt_Sp_isImage 59 rfl) rfl) ?_
    refine J_bind (fun q12 hq12 => ?_)
    refine J_mono (jc_Sp_272 C (jkf_11_0 hp0) (C_Ta_read l G F (jpf a0 0) q10 (jkf_11_0 hp0) M hq12) rfl (Nat.le_trans (Nat.le_of_ble_eq_true rfl : 1 + 1 ≤ 2) hD) (jd jdt_Sp_isImage 60 rfl)) ?_
    refine J_mono (w_aload_n C (jd jdt_Sp_isImage 61 rfl) rfl) ?_
    refine J_mono (jg_Sp_12 C hp0 (jd jdt_Sp_isImage 62 rfl)) ?_
    refine J_mono (jg_Sp_354 C (jkf_11_0 hp0) (jd jdt_Sp_isImage 63 rfl)) ?_
    refine J_mono (w_iload_n C (jd jdt_Sp_isImage 64 rfl) rfl) ?_
    refine J_bind (fun q13 hq13 => ?_)
    refine J_mono (jc_Sp_309 C (C_Sp_check l G F (jpf (jpf a0 0) 0) q10 (jkf_10_0 (jkf_11_0 hp0)) M hq13) rfl (Nat.le_trans (Nat.le_of_ble_eq_true rfl : 1 + 1 ≤ 2) hD) (jd jdt_Sp_isImage 65 rfl)) ?_
    refine J_br (w_icmp_ne C (jd jdt_Sp_isImage 66 rfl) rfl) (fun h14 => J_pos h14 ?_) (fun h14 => J_neg h14 ?_)
    · refine J_mono (w_iconst_1 C (jd jdt_Sp_isImage 67 rfl)) ?_
      refine J_mono (w_goto C (jd jdt_Sp_isImage 68 rfl) rfl) ?_
      exact J_some (fun hx => hR 1 hx _ _ (jd jdt_Sp_isImage 70 rfl) rfl)
    · refine J_mono (w_iconst_0 C (jd jdt_Sp_isImage 69 rfl)) ?_
      exact J_some (fun hx => hR 0 hx _ _ (jd jdt_Sp_isImage 70 rfl) rfl)
  · refine J_mono (w_iconst_0 C (jd jdt_Sp_isImage 69 rfl)) ?_
    exact J_some (fun hx => hR 0 hx _ _ (jd jdt_Sp_isImage 70 rfl) rfl)
end
theorem C_Sp_isImage (l : Launch) (G : JG) (F : jF G = false) (a0 : Nat) (hp0 : jkd a0 11) (M : SM) {q : Int32} (hf : f_Sp_isImage a0 M = some q) : jMet l jy_Sp_isImage jb_Sp_isImage 6 (some FieldType.boolean) 2 0 0 G [.ref a0] jN0 (jce G M) (some (.int q)) jN0 (jce G M) :=
  j_met jo_Sp_isImage (by decide) (Nat.le_of_ble_eq_true rfl) (fun p e s m args below meth c C hr hm => K_Sp_isImage C F (Nat.le_refl _) a0 hp0 M (fun t => t = q) (fun v hX pc ls hd hn => by cases hX; exact w_iret C hr hn hd) _ hf rfl)
def lp_Sp_takeImage_27 (y0 : Nat) (y1 : Int32) (y2 : Int32) (y3 : Int32) : Nat → Int32 → SM → Option (SM)
  | 0, _, _ => none
  | n + 1, x4, M => if y3 < x4 then (some M) else ((f_Ta_read (jpf y0 0) (y1 + x4) M).bind fun q4 => (f_Pa_setAct (jpf (jop (M.1 y0 8)) 13) y2 x4 q4 M).bind fun q5 => lp_Sp_takeImage_27 y0 y1 y2 y3 n (x4 + 1) q5)
def lp_Sp_takeImage_4 (y0 : Nat) : Nat → Int32 → Int32 → SM → Option (SM)
  | 0, _, _, _ => none
  | n + 1, x1, x2, M => if x2 < (M.1 (jop (M.1 y0 8)) 4) then ((f_Ta_read (jpf y0 0) x1 M).bind fun q2 => (lp_Sp_takeImage_27 y0 x1 x2 q2 jfuel 1 M).bind fun q6 => (f_Pa_setSize (jpf (jop (q6.1 y0 8)) 13) x2 q2 q6).bind fun q7 => lp_Sp_takeImage_4 y0 n (x1 + (q2 + 1)) (x2 + 1) q7) else (some M)
def f_Sp_takeImage (a0 : Nat) (M : SM) : Option SM := (lp_Sp_takeImage_4 a0 jfuel 0 0 M).bind fun q8 => some q8
section
variable {p : Program} {l : Launch} {e : Env} {R : Room} {s : State} {m : MethodId} {args : Array Value} {below : List Frame} {meth : Method} {c : Code} {G : JG} {D : Nat} {Q : State → Prop}
set_option maxHeartbeats 4000000 in
set_option maxRecDepth 20000 in
theorem K_Sp_takeImage (C : jCx p R s m args meth c G jb_Sp_takeImage 5 D "SluicePit") (F : jF G = false) (hD : 3 ≤ D) (a0 : Nat) (hp0 : jkd a0 11) (M : SM) (X : SM → Prop) (hR : ∀ M', X M' → ∀ (pc : Nat) (ls : List (Option Value)), decode jb_Sp_takeImage pc = .ok (.return_, 1) → Wk p l e R s m args below meth c G 5 Q 0 0 jN0 (jce G M') pc ls []) : J X (f_Sp_takeImage a0 M) (Wk p l e R s m args below meth c G 5 Q 0 0 jN0 (jce G M) 0 [some (.ref a0), none, none, none, none] []) := by
  unfold f_Sp_takeImage
  refine J_mono (w_iconst_0 C (jd jdt_Sp_takeImage 0 rfl)) ?_
  refine J_mono (w_istore_n (ls' := [some (.ref a0), some (.int 0), none, none, none]) C (jd jdt_Sp_takeImage 1 rfl) (by decide) rfl rfl) ?_
  refine J_mono (w_iconst_0 C (jd jdt_Sp_takeImage 2 rfl)) ?_
  refine J_mono (w_istore_n (ls' := [some (.ref a0), some (.int 0), some (.int 0), none, none]) C (jd jdt_Sp_takeImage 3 rfl) (by decide) rfl rfl) ?_
  have L4 : ∀ (y0 : Nat) (hy0 : jkd y0 11) (n : Nat) (x1 : Int32) (x2 : Int32) (M : SM), J (fun (q8 : SM) => Wk p l e R s m args below meth c G 5 Q 0 0 jN0 (jce G q8) 87 [none, none, none, none, none] []) (lp_Sp_takeImage_4 y0 n x1 x2 M) (Wk p l e R s m args below meth c G 5 Q 0 0 jN0 (jce G M) 4 [some (.ref y0), some (.int x1), some (.int x2), none, none] []) := by
    intro y0 hy0 n
    induction n with
    | zero => intro x1 x2 M; exact J_none
    | succ n ih =>
      intro x1 x2 M
      unfold lp_Sp_takeImage_4
      refine J_mono (w_iload_n C (jd jdt_Sp_takeImage 4 rfl) rfl) ?_
      refine J_mono (w_aload_n C (jd jdt_Sp_takeImage 5 rfl) rfl) ?_
      refine J_mono (jg_Sp_37 C hy0 (jd jdt_Sp_takeImage 6 rfl)) ?_
      refine J_mono (jg_Sp_135 C (jop_kd _) (jd jdt_Sp_takeImage 7 rfl)) ?_
      refine J_br (w_icmp_ge C (jd jdt_Sp_takeImage 8 rfl) rfl) (fun h1 => J_pos h1 ?_) (fun h1 => J_neg h1 ?_)
      · refine J_mono (w_aload_n C (jd jdt_Sp_takeImage 9 rfl) rfl) ?_
        refine J_mono (jg_Sp_12 C hy0 (jd jdt_Sp_takeImage 10 rfl)) ?_
        refine J_mono (w_iload_n C (jd jdt_Sp_takeImage 11 rfl) rfl) ?_
        refine J_bind (fun q2 hq2 => ?_)
        refine J_mono (jc_Sp_272 C (jkf_11_0 hy0) (C_Ta_read l G F (jpf y0 0) x1 (jkf_11_0 hy0) M hq2) rfl (Nat.le_trans (Nat.le_of_ble_eq_true rfl : 1 + 1 ≤ 3) hD) (jd jdt_Sp_takeImage 12 rfl)) ?_
        refine J_mono (w_istore_n (ls' := [some (.ref y0), some (.int x1), some (.int x2), some (.int q2), none]) C (jd jdt_Sp_takeImage 13 rfl) (by decide) rfl rfl) ?_
        refine J_mono (w_iconst_1 C (jd jdt_Sp_takeImage 14 rfl)) ?_
        refine J_mono (w_istore (ls' := [some (.ref y0), some (.int x1), some (.int x2), some (.int q2), some (.int 1)]) C (jd jdt_Sp_takeImage 15 rfl) (by decide) rfl rfl) ?_
        have L27 : ∀ (y0 : Nat) (y1 : Int32) (y2 : Int32) (y3 : Int32) (hy0 : jkd y0 11) (n : Nat) (x4 : Int32) (M : SM), J (fun (q6 : SM) => Wk p l e R s m args below meth c G 5 Q 0 0 jN0 (jce G q6) 63 [some (.ref y0), some (.int y1), some (.int y2), some (.int y3), none] []) (lp_Sp_takeImage_27 y0 y1 y2 y3 n x4 M) (Wk p l e R s m args below meth c G 5 Q 0 0 jN0 (jce G M) 27 [some (.ref y0), some (.int y1), some (.int y2), some (.int y3), some (.int x4)] []) := by
          intro y0 y1 y2 y3 hy0 n
          induction n with
          | zero => intro x4 M; exact J_none
          | succ n ih =>
            intro x4 M
            unfold lp_Sp_takeImage_27
            refine J_mono (w_iload C (jd jdt_Sp_takeImage 16 rfl) rfl) ?_
            refine J_mono (w_iload_n C (jd jdt_Sp_takeImage 17 rfl) rfl) ?_
            refine J_br (w_icmp_gt C (jd jdt_Sp_takeImage 18 rfl) rfl) (fun h3 => J_pos h3 ?_) (fun h3 => J_neg h3 ?_)
            · exact J_some (fun hx => Wk_sb hx ⟨rfl, rfl, rfl, rfl, trivial⟩)
            · refine J_mono (w_aload_n C (jd jdt_Sp_takeImage 19 rfl) rfl) ?_
              refine J_mono (jg_Sp_37 C hy0 (jd jdt_Sp_takeImage 20 rfl)) ?_
              refine J_mono (jg_Sp_163 C (jop_kd _) (jd jdt_Sp_takeImage 21 rfl)) ?_
              refine J_mono (w_iload_n C (jd jdt_Sp_takeImage 22 rfl) rfl) ?_
              refine J_mono (w_iload C (jd jdt_Sp_takeImage 23 rfl) rfl) ?_
              refine J_mono (w_aload_n C (jd jdt_Sp_takeImage 24 rfl) rfl) ?_
              refine J_mono (jg_Sp_12 C hy0 (jd jdt_Sp_takeImage 25 rfl)) ?_
              refine J_mono (w_iload_n C (jd jdt_Sp_takeImage 26 rfl) rfl) ?_
              refine J_mono (w_iload C (jd jdt_Sp_takeImage 27 rfl) rfl) ?_
              refine J_mono (w_iadd C (jd jdt_Sp_takeImage 28 rfl)) ?_
              refine J_bind (fun q4 hq4 => ?_)
              refine J_mono (jc_Sp_272 C (jkf_11_0 hy0) (C_Ta_read l G F (jpf y0 0) (y1 + x4) (jkf_11_0 hy0) M hq4) rfl (Nat.le_trans (Nat.le_of_ble_eq_true rfl : 1 + 1 ≤ 3) hD) (jd jdt_Sp_takeImage 29 rfl)) ?_
              refine J_bind (fun q5 hq5 => ?_)
              refine J_mono (jc_Sp_357 C (jkf_1_13 (jop_kd _)) (C_Pa_setAct l G F (jpf (jop (M.1 y0 8)) 13) y2 x4 q4 (jkf_1_13 (jop_kd _)) M hq5) rfl (Nat.le_trans (Nat.le_of_ble_eq_true rfl : 2 + 1 ≤ 3) hD) (jd jdt_Sp_takeImage 30 rfl)) ?_
              refine J_mono (w_iinc (v := x4 + 1) (ls' := [some (.ref y0), some (.int y1), some (.int y2), some (.int y3), some (.int (x4 + 1))]) C (jd jdt_Sp_takeImage 31 rfl) rfl rfl (by decide) rfl rfl) ?_
              refine J_mono (w_goto C (jd jdt_Sp_takeImage 32 rfl) rfl) ?_
              exact J_sub (ih (x4 + 1) q5) ⟨rfl, rfl, rfl, rfl, rfl, trivial⟩
        refine J_seq (fun (q6 : SM) => Wk p l e R s m args below meth c G 5 Q 0 0 jN0 (jce G q6) 63 [some (.ref y0), some (.int x1), some (.int x2), some (.int q2), none] []) (J_sub (L27 y0 x1 x2 q2 hy0 jfuel 1 M) ⟨rfl, rfl, rfl, rfl, rfl, trivial⟩) (fun q6 hq6 => ?_)
        refine J_mono (w_aload_n C (jd jdt_Sp_takeImage 33 rfl) rfl) ?_
        refine J_mono (jg_Sp_37 C hy0 (jd jdt_Sp_takeImage 34 rfl)) ?_
        refine J_mono (jg_Sp_163 C (jop_kd _) (jd jdt_Sp_takeImage 35 rfl)) ?_
        refine J_mono (w_iload_n C (jd jdt_Sp_takeImage 36 rfl) rfl) ?_
        refine J_mono (w_iload_n C (jd jdt_Sp_takeImage 37 rfl) rfl) ?_
        refine J_bind (fun q7 hq7 => ?_)
        refine J_mono (jc_Sp_361 C (jkf_1_13 (jop_kd _)) (C_Pa_setSize l G F (jpf (jop (q6.1 y0 8)) 13) x2 q2 (jkf_1_13 (jop_kd _)) q6 hq7) rfl (Nat.le_trans (Nat.le_of_ble_eq_true rfl : 2 + 1 ≤ 3) hD) (jd jdt_Sp_takeImage 38 rfl)) ?_
        refine J_mono (w_iload_n C (jd jdt_Sp_takeImage 39 rfl) rfl) ?_
        refine J_mono (w_iload_n C (jd jdt_Sp_takeImage 40 rfl) rfl) ?_
        refine J_mono (w_iconst_1 C (jd jdt_Sp_takeImage 41 rfl)) ?_
        refine J_mono (w_iadd C (jd jdt_Sp_takeImage 42 rfl)) ?_
        refine J_mono (w_iadd C (jd jdt_Sp_takeImage 43 rfl)) ?_
        refine J_mono (w_istore_n (ls' := [some (.ref y0), some (.int (x1 + (q2 + 1))), some (.int x2), some (.int q2), none]) C (jd jdt_Sp_takeImage 44 rfl) (by decide) rfl rfl) ?_
        refine J_mono (w_iinc (v := x2 + 1) (ls' := [some (.ref y0), some (.int (x1 + (q2 + 1))), some (.int (x2 + 1)), some (.int q2), none]) C (jd jdt_Sp_takeImage 45 rfl) rfl rfl (by decide) rfl rfl) ?_
        refine J_mono (w_goto C (jd jdt_Sp_takeImage 46 rfl) rfl) ?_
        exact J_sub (ih (x1 + (q2 + 1)) (x2 + 1) q7) ⟨rfl, rfl, rfl, trivial⟩
      · exact J_some (fun hx => Wk_sb hx trivial)
  refine J_seq (fun (q8 : SM) => Wk p l e R s m args below meth c G 5 Q 0 0 jN0 (jce G q8) 87 [none, none, none, none, none] []) (J_sub (L4 a0 hp0 jfuel 0 0 M) ⟨rfl, rfl, rfl, trivial⟩) (fun q8 hq8 => ?_)
  exact J_some (fun hx => hR q8 hx _ _ (jd jdt_Sp_takeImage 47 rfl))
end
theorem C_Sp_takeImage (l : Launch) (G : JG) (F : jF G = false) (a0 : Nat) (hp0 : jkd a0 11) (M : SM) {q : SM} (hf : f_Sp_takeImage a0 M = some q) : jMet l jy_Sp_takeImage jb_Sp_takeImage 5 none 3 0 0 G [.ref a0] jN0 (jce G M) none jN0 (jce G q) :=
  j_met jo_Sp_takeImage (by decide) (Nat.le_of_ble_eq_true rfl) (fun p e s m args below meth c C hr hm => K_Sp_takeImage C F (Nat.le_refl _) a0 hp0 M (fun t => t = q) (fun M' hX pc ls hd => by cases hX; exact w_vret C hr hd) _ hf rfl)
def f_Sp_on (a0 : Nat) (M : SM) : Option (Int32 × SM) := (if 0 < (M.1 (jop (M.1 a0 8)) 1) then ((f_Sp_isImage a0 M).bind fun q3 => if q3 = 0 then (some 0) else (some 1)) else (some 0) : Option (Int32)).bind fun q1 => (if q1 = 0 then (some M) else ((f_Sp_takeImage a0 M).bind fun q7 => (f_Ac_forget (jpf a0 5) q7).bind fun q8 => (f_Ru_playAll (jpf a0 6) (jop (q8.1 a0 8)) (jpf a0 7) q8).bind fun q9 => some q9) : Option (SM)).bind fun q5 => (bchk q1).bind fun b10 => some (b10, sI q5 (jpf a0 0) 1 0)
section
variable {p : Program} {l : Launch} {e : Env} {R : Room} {s : State} {m : MethodId} {args : Array Value} {below : List Frame} {meth : Method} {c : Code} {G : JG} {D : Nat} {Q : State → Prop}
set_option maxHeartbeats 4000000 in
set_option maxRecDepth 20000 in
theorem K_Sp_on (C : jCx p R s m args meth c G jb_Sp_on 2 D "SluicePit") (F : jF G = false) (hD : 10 ≤ D) (a0 : Nat) (hp0 : jkd a0 11) (M : SM) (X : (Int32 × SM) → Prop) (hR : ∀ v M', X (v, M') → ∀ (pc : Nat) (ls : List (Option Value)), decode jb_Sp_on pc = .ok (.ireturn, 1) → narrow FieldType.boolean (.int v) = .int v → Wk p l e R s m args below meth c G 2 Q 0 0 jN0 (jce G M') pc ls [.int v]) : J X (f_Sp_on a0 M) (Wk p l e R s m args below meth c G 2 Q 0 0 jN0 (jce G M) 0 [some (.ref a0), none] []) := by
  unfold f_Sp_on
  refine J_mono (w_aload_n C (jd jdt_Sp_on 0 rfl) rfl) ?_
  refine J_mono (jg_Sp_37 C hp0 (jd jdt_Sp_on 1 rfl)) ?_
  refine J_mono (jg_Sp_132 C (jop_kd _) (jd jdt_Sp_on 2 rfl)) ?_
  refine J_seq (fun (q1 : Int32) => Wk p l e R s m args below meth c G 2 Q 0 0 jN0 (jce G M) 22 [some (.ref a0), none] [.int q1]) ?_ (fun q1 hq1 => ?_)
  · refine J_br (w_if_le (y := 0) C (jd jdt_Sp_on 3 rfl) rfl) (fun h2 => J_pos h2 ?_) (fun h2 => J_neg h2 ?_)
    · refine J_mono (w_aload_n C (jd jdt_Sp_on 4 rfl) rfl) ?_
      refine J_bind (fun q3 hq3 => ?_)
      refine J_mono (jc_Sp_312 C hp0 (C_Sp_isImage l G F a0 hp0 M hq3) rfl (Nat.le_trans (Nat.le_of_ble_eq_true rfl : 2 + 1 ≤ 10) hD) (jd jdt_Sp_on 5 rfl)) ?_
      refine J_br (w_if_eq (y := 0) C (jd jdt_Sp_on 6 rfl) rfl) (fun h4 => J_pos h4 ?_) (fun h4 => J_neg h4 ?_)
      · refine J_mono (w_iconst_0 C (jd jdt_Sp_on 9 rfl)) ?_
        exact J_some (fun hx => Wk_sb hx ⟨rfl, trivial⟩)
      · refine J_mono (w_iconst_1 C (jd jdt_Sp_on 7 rfl)) ?_
        refine J_mono (w_goto C (jd jdt_Sp_on 8 rfl) rfl) ?_
        exact J_some (fun hx => Wk_sb hx ⟨rfl, trivial⟩)
    · refine J_mono (w_iconst_0 C (jd jdt_Sp_on 9 rfl)) ?_
      exact J_some (fun hx => Wk_sb hx ⟨rfl, trivial⟩)
  · refine J_mono (w_istore_n (ls' := [some (.ref a0), some (.int q1)]) C (jd jdt_Sp_on 10 rfl) (by decide) rfl rfl) ?_
    refine J_mono (w_iload_n C (jd jdt_Sp_on 11 rfl) rfl) ?_
    refine J_seq (fun (q5 : SM) => Wk p l e R s m args below meth c G 2 Q 0 0 jN0 (jce G q5) 53 [some (.ref a0), some (.int q1)] []) ?_ (fun q5 hq5 => ?_)
    · refine J_br (w_if_eq (y := 0) C (jd jdt_Sp_on 12 rfl) rfl) (fun h6 => J_pos h6 ?_) (fun h6 => J_neg h6 ?_)
      · exact J_some (fun hx => Wk_sb hx ⟨rfl, rfl, trivial⟩)
      · refine J_mono (w_aload_n C (jd jdt_Sp_on 13 rfl) rfl) ?_
        refine J_bind (fun q7 hq7 => ?_)
        refine J_mono (jc_Sp_315 C hp0 (C_Sp_takeImage l G F a0 hp0 M hq7) rfl (Nat.le_trans (Nat.le_of_ble_eq_true rfl : 3 + 1 ≤ 10) hD) (jd jdt_Sp_on 14 rfl)) ?_
        refine J_mono (w_aload_n C (jd jdt_Sp_on 15 rfl) rfl) ?_
        refine J_mono (jg_Sp_56 C hp0 (jd jdt_Sp_on 16 rfl)) ?_
        refine J_bind (fun q8 hq8 => ?_)
        refine J_mono (jc_Sp_116 C (jkf_11_5 hp0) (C_Ac_forget l G F (jpf a0 5) (jkf_11_5 hp0) q7 hq8) rfl (Nat.le_trans (Nat.le_of_ble_eq_true rfl : 1 + 1 ≤ 10) hD) (jd jdt_Sp_on 17 rfl)) ?_
        refine J_mono (w_aload_n C (jd jdt_Sp_on 18 rfl) rfl) ?_
        refine J_mono (jg_Sp_63 C hp0 (jd jdt_Sp_on 19 rfl)) ?_
        refine J_mono (w_aload_n C (jd jdt_Sp_on 20 rfl) rfl) ?_
        refine J_mono (jg_Sp_37 C hp0 (jd jdt_Sp_on 21 rfl)) ?_
        refine J_mono (w_aload_n C (jd jdt_Sp_on 22 rfl) rfl) ?_
        refine J_mono (jg_Sp_70 C hp0 (jd jdt_Sp_on 23 rfl)) ?_
        refine J_bind (fun q9 hq9 => ?_)
        refine J_mono (jc_Sp_119 C (jkf_11_6 hp0) (C_Ru_playAll l G F (jpf a0 6) (jop (q8.1 a0 8)) (jpf a0 7) (jkf_11_6 hp0) (jop_kd _) (jkf_11_7 hp0) q8 hq9) rfl (Nat.le_trans (Nat.le_of_ble_eq_true rfl : 9 + 1 ≤ 10) hD) (jd jdt_Sp_on 24 rfl)) ?_
        exact J_some (fun hx => Wk_sb hx ⟨rfl, rfl, trivial⟩)
    · refine J_mono (w_aload_n C (jd jdt_Sp_on 25 rfl) rfl) ?_
      refine J_mono (jg_Sp_12 C hp0 (jd jdt_Sp_on 26 rfl)) ?_
      refine J_mono (w_iconst_0 C (jd jdt_Sp_on 27 rfl)) ?_
      refine J_mono (jp_Sp_102 C F (jkf_11_0 hp0) (jd jdt_Sp_on 28 rfl)) ?_
      refine J_mono (w_iload_n C (jd jdt_Sp_on 29 rfl) rfl) ?_
      refine J_bind (fun b10 hb10 => ?_)
      obtain rfl := bchk_e hb10
      exact J_some (fun hx => hR _ (sI q5 (jpf a0 0) 1 0) hx _ _ (jd jdt_Sp_on 30 rfl) (bchk_n hb10))
end
theorem C_Sp_on (l : Launch) (G : JG) (F : jF G = false) (a0 : Nat) (hp0 : jkd a0 11) (M : SM) {q : (Int32 × SM)} (hf : f_Sp_on a0 M = some q) : jMet l jy_Sp_on jb_Sp_on 2 (some FieldType.boolean) 10 0 0 G [.ref a0] jN0 (jce G M) (some (.int q.1)) jN0 (jce G q.2) :=
  j_met jo_Sp_on (by decide) (Nat.le_of_ble_eq_true rfl) (fun p e s m args below meth c C hr hm => K_Sp_on C F (Nat.le_refl _) a0 hp0 M (fun t => t = q) (fun v M' hX pc ls hd hn => by cases hX; exact w_iret C hr hn hd) _ hf rfl)
