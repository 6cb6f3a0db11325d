def f_Mo_qAsksWord (a0 : Nat) (a1 : Int32) (M : SM) : Option SM := if a1 = 0 then ((f_Mo_asks a0 (jpf a0 80) M).bind fun q2 => some q2) else (if a1 = 1 then ((f_Mo_asks a0 (jpf a0 81) M).bind fun q4 => some q4) else (if a1 = 2 then ((f_Mo_asks a0 (jpf a0 82) M).bind fun q6 => some q6) else (if a1 = 3 then ((f_Mo_asks a0 (jpf a0 83) M).bind fun q8 => some q8) else (if a1 = 4 then ((f_Mo_asks a0 (jpf a0 84) M).bind fun q10 => some q10) else (if a1 = 5 then ((f_Mo_asks a0 (jpf a0 85) M).bind fun q12 => some q12) else (if a1 = 6 then ((f_Mo_asks a0 (jpf a0 86) M).bind fun q14 => some q14) else ((f_Mo_asks a0 (jpf a0 87) M).bind fun q15 => some q15)))))))
section
variable {p : Program} {l : Launch} {e : Env} {R : Room} {s : State} {m : MethodId} {args : Array Value} {below : List Frame} {meth : Method} {c : Code} {G : JG} {D : Nat} {Q : State → Prop}
set_option maxHeartbeats 4000000 in
set_option maxRecDepth 20000 in
theorem K_Mo_qAsksWord (C : jCx p R s m args meth c G jb_Mo_qAsksWord 2 D "SluicePitModel") (F : jF G = false) (hD : 5 ≤ D) (a0 : Nat) (a1 : Int32) (hp0 : jkd a0 12) (M : SM) (X : SM → Prop) (hR : ∀ M', X M' → ∀ (pc : Nat) (ls : List (Option Value)), decode jb_Mo_qAsksWord pc = .ok (.return_, 1) → Wk p l e R s m args below meth c G 2 Q 0 0 jN0 (jce G M') pc ls []) : J X (f_Mo_qAsksWord a0 a1 M) (Wk p l e R s m args below meth c G 2 Q 0 0 jN0 (jce G M) 0 [some (.ref a0), some (.int a1)] []) := by
  unfold f_Mo_qAsksWord
  refine J_mono (w_iload_n C (jd jdt_Mo_qAsksWord 0 rfl) rfl) ?_
  refine J_ite (fun h1 => ?_) (fun h1 => ?_)
  · refine J_mono (w_tsw C h1 (jd jdt_Mo_qAsksWord 1 rfl) (by decide) (by decide) rfl rfl) ?_
    refine J_mono (w_aload_n C (jd jdt_Mo_qAsksWord 2 rfl) rfl) ?_
    refine J_mono (w_aload_n C (jd jdt_Mo_qAsksWord 3 rfl) rfl) ?_
    refine J_mono (jg_Mo_179 C hp0 (jd jdt_Mo_qAsksWord 4 rfl)) ?_
    refine J_bind (fun q2 hq2 => ?_)
    refine J_mono (jc_Mo_304 C hp0 (C_Mo_asks l G F a0 (jpf a0 80) hp0 (jkf_12_80 hp0) M hq2) rfl (Nat.le_trans (Nat.le_of_ble_eq_true rfl : 4 + 1 ≤ 5) hD) (jd jdt_Mo_qAsksWord 5 rfl)) ?_
    refine J_mono (w_goto C (jd jdt_Mo_qAsksWord 6 rfl) rfl) ?_
    exact J_some (fun hx => hR q2 hx _ _ (jd jdt_Mo_qAsksWord 41 rfl))
  · refine J_ite (fun h3 => ?_) (fun h3 => ?_)
    · refine J_mono (w_tsw C h3 (jd jdt_Mo_qAsksWord 1 rfl) (by decide) (by decide) rfl rfl) ?_
      refine J_mono (w_aload_n C (jd jdt_Mo_qAsksWord 7 rfl) rfl) ?_
      refine J_mono (w_aload_n C (jd jdt_Mo_qAsksWord 8 rfl) rfl) ?_
      refine J_mono (jg_Mo_182 C hp0 (jd jdt_Mo_qAsksWord 9 rfl)) ?_
      refine J_bind (fun q4 hq4 => ?_)
      refine J_mono (jc_Mo_304 C hp0 (C_Mo_asks l G F a0 (jpf a0 81) hp0 (jkf_12_81 hp0) M hq4) rfl (Nat.le_trans (Nat.le_of_ble_eq_true rfl : 4 + 1 ≤ 5) hD) (jd jdt_Mo_qAsksWord 10 rfl)) ?_
      refine J_mono (w_goto C (jd jdt_Mo_qAsksWord 11 rfl) rfl) ?_
      exact J_some (fun hx => hR q4 hx _ _ (jd jdt_Mo_qAsksWord 41 rfl))
    · refine J_ite (fun h5 => ?_) (fun h5 => ?_)
      · refine J_mono (w_tsw C h5 (jd jdt_Mo_qAsksWord 1 rfl) (by decide) (by decide) rfl rfl) ?_
        refine J_mono (w_aload_n C (jd jdt_Mo_qAsksWord 12 rfl) rfl) ?_
        refine J_mono (w_aload_n C (jd jdt_Mo_qAsksWord 13 rfl) rfl) ?_
        refine J_mono (jg_Mo_185 C hp0 (jd jdt_Mo_qAsksWord 14 rfl)) ?_
        refine J_bind (fun q6 hq6 => ?_)
        refine J_mono (jc_Mo_304 C hp0 (C_Mo_asks l G F a0 (jpf a0 82) hp0 (jkf_12_82 hp0) M hq6) rfl (Nat.le_trans (Nat.le_of_ble_eq_true rfl : 4 + 1 ≤ 5) hD) (jd jdt_Mo_qAsksWord 15 rfl)) ?_
        refine J_mono (w_goto C (jd jdt_Mo_qAsksWord 16 rfl) rfl) ?_
        exact J_some (fun hx => hR q6 hx _ _ (jd jdt_Mo_qAsksWord 41 rfl))
      · refine J_ite (fun h7 => ?_) (fun h7 => ?_)
        · refine J_mono (w_tsw C h7 (jd jdt_Mo_qAsksWord 1 rfl) (by decide) (by decide) rfl rfl) ?_
          refine J_mono (w_aload_n C (jd jdt_Mo_qAsksWord 17 rfl) rfl) ?_
          refine J_mono (w_aload_n C (jd jdt_Mo_qAsksWord 18 rfl) rfl) ?_
          refine J_mono (jg_Mo_188 C hp0 (jd jdt_Mo_qAsksWord 19 rfl)) ?_
          refine J_bind (fun q8 hq8 => ?_)
          refine J_mono (jc_Mo_304 C hp0 (C_Mo_asks l G F a0 (jpf a0 83) hp0 (jkf_12_83 hp0) M hq8) rfl (Nat.le_trans (Nat.le_of_ble_eq_true rfl : 4 + 1 ≤ 5) hD) (jd jdt_Mo_qAsksWord 20 rfl)) ?_
          refine J_mono (w_goto C (jd jdt_Mo_qAsksWord 21 rfl) rfl) ?_
          exact J_some (fun hx => hR q8 hx _ _ (jd jdt_Mo_qAsksWord 41 rfl))
        · refine J_ite (fun h9 => ?_) (fun h9 => ?_)
          · refine J_mono (w_tsw C h9 (jd jdt_Mo_qAsksWord 1 rfl) (by decide) (by decide) rfl rfl) ?_
            refine J_mono (w_aload_n C (jd jdt_Mo_qAsksWord 22 rfl) rfl) ?_
            refine J_mono (w_aload_n C (jd jdt_Mo_qAsksWord 23 rfl) rfl) ?_
            refine J_mono (jg_Mo_191 C hp0 (jd jdt_Mo_qAsksWord 24 rfl)) ?_
            refine J_bind (fun q10 hq10 => ?_)
            refine J_mono (jc_Mo_304 C hp0 (C_Mo_asks l G F a0 (jpf a0 84) hp0 (jkf_12_84 hp0) M hq10) rfl (Nat.le_trans (Nat.le_of_ble_eq_true rfl : 4 + 1 ≤ 5) hD) (jd jdt_Mo_qAsksWord 25 rfl)) ?_
            refine J_mono (w_goto C (jd jdt_Mo_qAsksWord 26 rfl) rfl) ?_
            exact J_some (fun hx => hR q10 hx _ _ (jd jdt_Mo_qAsksWord 41 rfl))
          · refine J_ite (fun h11 => ?_) (fun h11 => ?_)
            · refine J_mono (w_tsw C h11 (jd jdt_Mo_qAsksWord 1 rfl) (by decide) (by decide) rfl rfl) ?_
              refine J_mono (w_aload_n C (jd jdt_Mo_qAsksWord 27 rfl) rfl) ?_
              refine J_mono (w_aload_n C (jd jdt_Mo_qAsksWord 28 rfl) rfl) ?_
              refine J_mono (jg_Mo_194 C hp0 (jd jdt_Mo_qAsksWord 29 rfl)) ?_
              refine J_bind (fun q12 hq12 => ?_)
              refine J_mono (jc_Mo_304 C hp0 (C_Mo_asks l G F a0 (jpf a0 85) hp0 (jkf_12_85 hp0) M hq12) rfl (Nat.le_trans (Nat.le_of_ble_eq_true rfl : 4 + 1 ≤ 5) hD) (jd jdt_Mo_qAsksWord 30 rfl)) ?_
              refine J_mono (w_goto C (jd jdt_Mo_qAsksWord 31 rfl) rfl) ?_
              exact J_some (fun hx => hR q12 hx _ _ (jd jdt_Mo_qAsksWord 41 rfl))
            · refine J_ite (fun h13 => ?_) (fun h13 => ?_)
              · refine J_mono (w_tsw C h13 (jd jdt_Mo_qAsksWord 1 rfl) (by decide) (by decide) rfl rfl) ?_
                refine J_mono (w_aload_n C (jd jdt_Mo_qAsksWord 32 rfl) rfl) ?_
                refine J_mono (w_aload_n C (jd jdt_Mo_qAsksWord 33 rfl) rfl) ?_
                refine J_mono (jg_Mo_197 C hp0 (jd jdt_Mo_qAsksWord 34 rfl)) ?_
                refine J_bind (fun q14 hq14 => ?_)
                refine J_mono (jc_Mo_304 C hp0 (C_Mo_asks l G F a0 (jpf a0 86) hp0 (jkf_12_86 hp0) M hq14) rfl (Nat.le_trans (Nat.le_of_ble_eq_true rfl : 4 + 1 ≤ 5) hD) (jd jdt_Mo_qAsksWord 35 rfl)) ?_
                refine J_mono (w_goto C (jd jdt_Mo_qAsksWord 36 rfl) rfl) ?_
                exact J_some (fun hx => hR q14 hx _ _ (jd jdt_Mo_qAsksWord 41 rfl))
              · refine J_mono (w_tswd C (jd jdt_Mo_qAsksWord 1 rfl) (fun k9 kA kB => by have kC : k9 = 0 ∨ k9 = 1 ∨ k9 = 2 ∨ k9 = 3 ∨ k9 = 4 ∨ k9 = 5 ∨ k9 = 6 := (by omega); rcases kC with rfl|rfl|rfl|rfl|rfl|rfl|rfl <;> first | exact h1 | exact h3 | exact h5 | exact h7 | exact h9 | exact h11 | exact h13) (by decide) (by decide) rfl) ?_
                refine J_mono (w_aload_n C (jd jdt_Mo_qAsksWord 37 rfl) rfl) ?_
                refine J_mono (w_aload_n C (jd jdt_Mo_qAsksWord 38 rfl) rfl) ?_
                refine J_mono (jg_Mo_200 C hp0 (jd jdt_Mo_qAsksWord 39 rfl)) ?_
                refine J_bind (fun q15 hq15 => ?_)
                refine J_mono (jc_Mo_304 C hp0 (C_Mo_asks l G F a0 (jpf a0 87) hp0 (jkf_12_87 hp0) M hq15) rfl (Nat.le_trans (Nat.le_of_ble_eq_true rfl : 4 + 1 ≤ 5) hD) (jd jdt_Mo_qAsksWord 40 rfl)) ?_
                exact J_some (fun hx => hR q15 hx _ _ (jd jdt_Mo_qAsksWord 41 rfl))
end
theorem C_Mo_qAsksWord (l : Launch) (G : JG) (F : jF G = false) (a0 : Nat) (a1 : Int32) (hp0 : jkd a0 12) (M : SM) {q : SM} (hf : f_Mo_qAsksWord a0 a1 M = some q) : jMet l jy_Mo_qAsksWord jb_Mo_qAsksWord 2 none 5 0 0 G [.ref a0, .int a1] jN0 (jce G M) none jN0 (jce G q) :=
  j_met jo_Mo_qAsksWord (by decide) (Nat.le_of_ble_eq_true rfl) (fun p e s m args below meth c C hr hm => K_Mo_qAsksWord C F (Nat.le_refl _) a0 a1 hp0 M (fun t => t = q) (fun M' hX pc ls hd => by cases hX; exact w_vret C hr hd) _ hf rfl)
def f_Mo_qDrops (a0 : Nat) (M : SM) : Option SM := (aI (sI M a0 91 ((M.1 a0 91) - 1)) (jpf a0 90) ((sI M a0 91 ((M.1 a0 91) - 1)).1 a0 91)).bind fun v1 => (f_Mo_qCode a0 v1 (sI M a0 91 ((M.1 a0 91) - 1))).bind fun q2 => some q2
section
variable {p : Program} {l : Launch} {e : Env} {R : Room} {s : State} {m : MethodId} {args : Array Value} {below : List Frame} {meth : Method} {c : Code} {G : JG} {D : Nat} {Q : State → Prop}
set_option maxHeartbeats 4000000 in
set_option maxRecDepth 20000 in
theorem K_Mo_qDrops (C : jCx p R s m args meth c G jb_Mo_qDrops 1 D "SluicePitModel") (F : jF G = false) (hD : 2 ≤ D) (a0 : Nat) (hp0 : jkd a0 12) (M : SM) (X : SM → Prop) (hR : ∀ M', X M' → ∀ (pc : Nat) (ls : List (Option Value)), decode jb_Mo_qDrops pc = .ok (.return_, 1) → Wk p l e R s m args below meth c G 1 Q 0 0 jN0 (jce G M') pc ls []) : J X (f_Mo_qDrops a0 M) (Wk p l e R s m args below meth c G 1 Q 0 0 jN0 (jce G M) 0 [some (.ref a0)] []) := by
  unfold f_Mo_qDrops
  refine J_mono (w_aload_n C (jd jdt_Mo_qDrops 0 rfl) rfl) ?_
  refine J_mono (w_dup_r C (jd jdt_Mo_qDrops 1 rfl)) ?_
  refine J_mono (jg_Mo_524 C hp0 (jd jdt_Mo_qDrops 2 rfl)) ?_
  refine J_mono (w_iconst_1 C (jd jdt_Mo_qDrops 3 rfl)) ?_
  refine J_mono (w_isub C (jd jdt_Mo_qDrops 4 rfl)) ?_
  refine J_mono (jp_Mo_524 C F hp0 (jd jdt_Mo_qDrops 5 rfl)) ?_
  refine J_mono (w_aload_n C (jd jdt_Mo_qDrops 6 rfl) rfl) ?_
  refine J_mono (w_aload_n C (jd jdt_Mo_qDrops 7 rfl) rfl) ?_
  refine J_mono (jg_Mo_206 C hp0 (jd jdt_Mo_qDrops 8 rfl)) ?_
  refine J_mono (w_aload_n C (jd jdt_Mo_qDrops 9 rfl) rfl) ?_
  refine J_mono (jg_Mo_524 C hp0 (jd jdt_Mo_qDrops 10 rfl)) ?_
  refine J_bind (fun v1 hv1 => ?_)
  refine J_mono (w_iald C (jkf_12_90 hp0) hv1 (jd jdt_Mo_qDrops 11 rfl)) ?_
  refine J_bind (fun q2 hq2 => ?_)
  refine J_mono (jc_Mo_527 C hp0 (C_Mo_qCode l G F a0 v1 hp0 (sI M a0 91 ((M.1 a0 91) - 1)) hq2) rfl (Nat.le_trans (Nat.le_of_ble_eq_true rfl : 1 + 1 ≤ 2) hD) (jd jdt_Mo_qDrops 12 rfl)) ?_
  exact J_some (fun hx => hR q2 hx _ _ (jd jdt_Mo_qDrops 13 rfl))
end
theorem C_Mo_qDrops (l : Launch) (G : JG) (F : jF G = false) (a0 : Nat) (hp0 : jkd a0 12) (M : SM) {q : SM} (hf : f_Mo_qDrops a0 M = some q) : jMet l jy_Mo_qDrops jb_Mo_qDrops 1 none 2 0 0 G [.ref a0] jN0 (jce G M) none jN0 (jce G q) :=
  j_met jo_Mo_qDrops (by decide) (Nat.le_of_ble_eq_true rfl) (fun p e s m args below meth c C hr hm => K_Mo_qDrops C F (Nat.le_refl _) a0 hp0 M (fun t => t = q) (fun M' hX pc ls hd => by cases hX; exact w_vret C hr hd) _ hf rfl)
def lp_Mo_qEndsPart_0 (y0 : Nat) : Nat → SM → Option (SM)
  | 0, _ => none
  | n + 1, M => if (M.1 y0 5) = 0 then (if (M.1 y0 93) < (M.1 y0 91) then ((aI M (jpf y0 90) ((M.1 y0 91) - 1)).bind fun v3 => if v3 < 60 then (some M) else ((f_Mo_qDrops y0 (sI M y0 92 ((M.1 y0 92) - 1))).bind fun q5 => lp_Mo_qEndsPart_0 y0 n q5)) else (some M)) else (some M)
def f_Mo_qEndsPart (a0 : Nat) (M : SM) : Option SM := (lp_Mo_qEndsPart_0 a0 jfuel M).bind fun q6 => some q6
section
variable {p : Program} {l : Launch} {e : Env} {R : Room} {s : State} {m : MethodId} {args : Array Value} {below : List Frame} {meth : Method} {c : Code} {G : JG} {D : Nat} {Q : State → Prop}
set_option maxHeartbeats 4000000 in
set_option maxRecDepth 20000 in
theorem K_Mo_qEndsPart (C : jCx p R s m args meth c G jb_Mo_qEndsPart 1 D "SluicePitModel") (F : jF G = false) (hD : 3 ≤ D) (a0 : Nat) (hp0 : jkd a0 12) (M : SM) (X : SM → Prop) (hR : ∀ M', X M' → ∀ (pc : Nat) (ls : List (Option Value)), decode jb_Mo_qEndsPart pc = .ok (.return_, 1) → Wk p l e R s m args below meth c G 1 Q 0 0 jN0 (jce G M') pc ls []) : J X (f_Mo_qEndsPart a0 M) (Wk p l e R s m args below meth c G 1 Q 0 0 jN0 (jce G M) 0 [some (.ref a0)] []) := by
  unfold f_Mo_qEndsPart
  have L0 : ∀ (y0 : Nat) (hy0 : jkd y0 12) (n : Nat)  (M : SM), J (fun (q6 : SM) => Wk p l e R s m args below meth c G 1 Q 0 0 jN0 (jce G q6) 51 [none] []) (lp_Mo_qEndsPart_0 y0 n M) (Wk p l e R s m args below meth c G 1 Q 0 0 jN0 (jce G M) 0 [some (.ref y0)] []) := by
    intro y0 hy0 n
    induction n with
    | zero => intro  M; exact J_none
    | succ n ih =>
      intro  M
      unfold lp_Mo_qEndsPart_0
      refine J_mono (w_aload_n C (jd jdt_Mo_qEndsPart 0 rfl) rfl) ?_
      refine J_mono (jg_Mo_218 C hy0 (jd jdt_Mo_qEndsPart 1 rfl)) ?_
      refine J_br (w_if_ne (y := 0) C (jd jdt_Mo_qEndsPart 2 rfl) rfl) (fun h1 => J_pos h1 ?_) (fun h1 => J_neg h1 ?_)
      · refine J_mono (w_aload_n C (jd jdt_Mo_qEndsPart 3 rfl) rfl) ?_
        refine J_mono (jg_Mo_524 C hy0 (jd jdt_Mo_qEndsPart 4 rfl)) ?_
        refine J_mono (w_aload_n C (jd jdt_Mo_qEndsPart 5 rfl) rfl) ?_
        refine J_mono (jg_Mo_530 C hy0 (jd jdt_Mo_qEndsPart 6 rfl)) ?_
        refine J_br (w_icmp_le C (jd jdt_Mo_qEndsPart 7 rfl) rfl) (fun h2 => J_pos h2 ?_) (fun h2 => J_neg h2 ?_)
        · refine J_mono (w_aload_n C (jd jdt_Mo_qEndsPart 8 rfl) rfl) ?_
          refine J_mono (jg_Mo_206 C hy0 (jd jdt_Mo_qEndsPart 9 rfl)) ?_
          refine J_mono (w_aload_n C (jd jdt_Mo_qEndsPart 10 rfl) rfl) ?_
          refine J_mono (jg_Mo_524 C hy0 (jd jdt_Mo_qEndsPart 11 rfl)) ?_
          refine J_mono (w_iconst_1 C (jd jdt_Mo_qEndsPart 12 rfl)) ?_
          refine J_mono (w_isub C (jd jdt_Mo_qEndsPart 13 rfl)) ?_
          refine J_bind (fun v3 hv3 => ?_)
          refine J_mono (w_iald C (jkf_12_90 hy0) hv3 (jd jdt_Mo_qEndsPart 14 rfl)) ?_
          refine J_mono (w_bipush_60 C (jd jdt_Mo_qEndsPart 15 rfl)) ?_
          refine J_br (w_icmp_lt C (jd jdt_Mo_qEndsPart 16 rfl) rfl) (fun h4 => J_pos h4 ?_) (fun h4 => J_neg h4 ?_)
          · exact J_some (fun hx => Wk_sb hx trivial)
          · refine J_mono (w_aload_n C (jd jdt_Mo_qEndsPart 17 rfl) rfl) ?_
            refine J_mono (w_dup_r C (jd jdt_Mo_qEndsPart 18 rfl)) ?_
            refine J_mono (jg_Mo_521 C hy0 (jd jdt_Mo_qEndsPart 19 rfl)) ?_
            refine J_mono (w_iconst_1 C (jd jdt_Mo_qEndsPart 20 rfl)) ?_
            refine J_mono (w_isub C (jd jdt_Mo_qEndsPart 21 rfl)) ?_
            refine J_mono (jp_Mo_521 C F hy0 (jd jdt_Mo_qEndsPart 22 rfl)) ?_
            refine J_mono (w_aload_n C (jd jdt_Mo_qEndsPart 23 rfl) rfl) ?_
            refine J_bind (fun q5 hq5 => ?_)
            refine J_mono (jc_Mo_536 C hy0 (C_Mo_qDrops l G F y0 hy0 (sI M y0 92 ((M.1 y0 92) - 1)) hq5) rfl (Nat.le_trans (Nat.le_of_ble_eq_true rfl : 2 + 1 ≤ 3) hD) (jd jdt_Mo_qEndsPart 24 rfl)) ?_
            refine J_mono (w_goto C (jd jdt_Mo_qEndsPart 25 rfl) rfl) ?_
            exact J_sub (ih q5) ⟨rfl, trivial⟩
        · exact J_some (fun hx => Wk_sb hx trivial)
      · exact J_some (fun hx => Wk_sb hx trivial)
  refine J_seq (fun (q6 : SM) => Wk p l e R s m args below meth c G 1 Q 0 0 jN0 (jce G q6) 51 [none] []) (J_sub (L0 a0 hp0 jfuel M) ⟨rfl, trivial⟩) (fun q6 hq6 => ?_)
  exact J_some (fun hx => hR q6 hx _ _ (jd jdt_Mo_qEndsPart 26 rfl))
end
theorem C_Mo_qEndsPart (l : Launch) (G : JG) (F : jF G = false) (a0 : Nat) (hp0 : jkd a0 12) (M : SM) {q : SM} (hf : f_Mo_qEndsPart a0 M = some q) : jMet l jy_Mo_qEndsPart jb_Mo_qEndsPart 1 none 3 0 0 G [.ref a0] jN0 (jce G M) none jN0 (jce G q) :=
  j_met jo_Mo_qEndsPart (by decide) (Nat.le_of_ble_eq_true rfl) (fun p e s m args below meth c C hr hm => K_Mo_qEndsPart C F (Nat.le_refl _) a0 hp0 M (fun t => t = q) (fun M' hX pc ls hd => by cases hX; exact w_vret C hr hd) _ hf rfl)
def lp_Mo_qPartTold_2 (y0 : Nat) : Nat → Int32 → SM → Option (SM)
  | 0, _, _ => none
  | n + 1, x1, M => if x1 = 0 then (some M) else (if (M.1 y0 5) = 0 then ((f_Mo_look y0 M).bind fun q3 => (f_Mo_qWordOf y0 6 8 q3.2).bind fun q4 => (if q3.1 = 40 then ((f_Mo_qOpens y0 20 (q4.2.1 y0 2) q4.2).bind fun q7 => some (x1, sI q7 y0 2 ((q7.1 y0 2) + 1))) else ((f_Mo_isHere y0 (jpf y0 78) q4.2).bind fun q8 => if q8.1 = 0 then ((f_Mo_isHere y0 (jpf y0 79) q8.2).bind fun q10 => if q10.1 = 0 then (if q4.1 = (-1) then (some (0, q10.2)) else ((f_Mo_qOpens y0 ((60 + q4.1) - 6) (q10.2.1 y0 2) q10.2).bind fun q13 => (f_Mo_qAsksWord y0 q4.1 q13).bind fun q14 => some (x1, q14))) else ((f_Mo_takes y0 (jpf y0 78) q10.2).bind fun q15 => (if q15.1 = 0 then ((f_Mo_asks y0 (jpf y0 79) q15.2).bind fun q18 => some q18) else (some q15.2) : Option (SM)).bind fun q16 => (f_Mo_look y0 q16).bind fun q19 => (if q19.1 = 40 then (some (q19.2.1 y0 2)) else (some (-1)) : Option (Int32)).bind fun q20 => (if q20 = (-1) then (some q19.2) else ((if q15.1 = 0 then (some 22) else (some 21) : Option (Int32)).bind fun q24 => (f_Mo_qOpens y0 q24 q20 q19.2).bind fun q26 => some q26) : Option (SM)).bind fun q22 => (f_Mo_asksSign y0 40 q22).bind fun q27 => some (x1, q27))) else ((f_Mo_takes y0 (jpf y0 78) q8.2).bind fun q28 => (if q28.1 = 0 then ((f_Mo_asks y0 (jpf y0 79) q28.2).bind fun q31 => some q31) else (some q28.2) : Option (SM)).bind fun q29 => (f_Mo_look y0 q29).bind fun q32 => (if q32.1 = 40 then (some (q32.2.1 y0 2)) else (some (-1)) : Option (Int32)).bind fun q33 => (if q33 = (-1) then (some q32.2) else ((if q28.1 = 0 then (some 22) else (some 21) : Option (Int32)).bind fun q37 => (f_Mo_qOpens y0 q37 q33 q32.2).bind fun q39 => some q39) : Option (SM)).bind fun q35 => (f_Mo_asksSign y0 40 q35).bind fun q40 => some (x1, q40))) : Option (Int32 × SM)).bind fun q5 => lp_Mo_qPartTold_2 y0 n q5.1 q5.2) else (some M))
def f_Mo_qPartTold (a0 : Nat) (M : SM) : Option SM := (lp_Mo_qPartTold_2 a0 jfuel 1 M).bind fun q41 => if (q41.1 a0 5) = 0 then ((f_Mo_qWordOf a0 0 6 q41).bind fun q43 => (if q43.1 = (-1) then (some q43.2) else ((f_Mo_qAsksWord a0 q43.1 q43.2).bind fun q46 => some q46) : Option (SM)).bind fun q44 => (if q43.1 = (-1) then ((f_Mo_number a0 0 9999 q44).bind fun q49 => some (1000 + q49.1, q49.2)) else (some (40 + q43.1, q44)) : Option (Int32 × SM)).bind fun q47 => (f_Mo_qCode a0 q47.1 q47.2).bind fun q50 => (f_Mo_qEndsPart a0 q50).bind fun q51 => some q51) else (some q41)
section
variable {p : Program} {l : Launch} {e : Env} {R : Room} {s : State} {m : MethodId} {args : Array Value} {below : List Frame} {meth : Method} {c : Code} {G : JG} {D : Nat} {Q : State → Prop}
set_option maxHeartbeats 4000000 in
set_option maxRecDepth 20000 in
theorem K_Mo_qPartTold (C : jCx p R s m args meth c G jb_Mo_qPartTold 6 D "SluicePitModel") (F : jF G = false) (hD : 6 ≤ D) (a0 : Nat) (hp0 : jkd a0 12) (M : SM) (X : SM → Prop) (hR : ∀ M', X M' → ∀ (pc : Nat) (ls : List (Option Value)), decode jb_Mo_qPartTold pc = .ok (.return_, 1) → Wk p l e R s m args below meth c G 6 Q 0 0 jN0 (jce G M') pc ls []) : J X (f_Mo_qPartTold a0 M) (Wk p l e R s m args below meth c G 6 Q 0 0 jN0 (jce G M) 0 [some (.ref a0), none, none, none, none, none] []) := by
  unfold f_Mo_qPartTold
  refine J_mono (w_iconst_1 C (jd jdt_Mo_qPartTold 0 rfl)) ?_
  refine J_mono (w_istore_n (ls' := [some (.ref a0), some (.int 1), none, none, none, none]) C (jd jdt_Mo_qPartTold 1 rfl) (by decide) rfl rfl) ?_
  have L2 : ∀ (y0 : Nat) (hy0 : jkd y0 12) (n : Nat) (x1 : Int32) (M : SM), J (fun (q41 : SM) => Wk p l e R s m args below meth c G 6 Q 0 0 jN0 (jce G q41) 186 [some (.ref y0), none, none, none, none, none] []) (lp_Mo_qPartTold_2 y0 n x1 M) (Wk p l e R s m args below meth c G 6 Q 0 0 jN0 (jce G M) 2 [some (.ref y0), some (.int x1), none, none, none, none] []) := by
    intro y0 hy0 n
    induction n with
    | zero => intro x1 M; exact J_none
    | succ n ih =>
      intro x1 M
      unfold lp_Mo_qPartTold_2
      refine J_mono (w_iload_n C (jd jdt_Mo_qPartTold 2 rfl) rfl) ?_
      refine J_br (w_if_eq (y := 0) C (jd jdt_Mo_qPartTold 3 rfl) rfl) (fun h1 => J_pos h1 ?_) (fun h1 => J_neg h1 ?_)
      · exact J_some (fun hx => Wk_sb hx ⟨rfl, trivial⟩)
      · refine J_mono (w_aload_n C (jd jdt_Mo_qPartTold 4 rfl) rfl) ?_
        refine J_mono (jg_Mo_218 C hy0 (jd jdt_Mo_qPartTold 5 rfl)) ?_
        refine J_br (w_if_ne (y := 0) C (jd jdt_Mo_qPartTold 6 rfl) rfl) (fun h2 => J_pos h2 ?_) (fun h2 => J_neg h2 ?_)
        · refine J_mono (w_aload_n C (jd jdt_Mo_qPartTold 7 rfl) rfl) ?_
          refine J_bind (fun q3 hq3 => ?_)
          refine J_mono (jc_Mo_230 C hy0 (C_Mo_look l G F y0 hy0 M hq3) rfl (Nat.le_trans (Nat.le_of_ble_eq_true rfl : 1 + 1 ≤ 6) hD) (jd jdt_Mo_qPartTold 8 rfl)) ?_
          refine J_mono (w_istore_n (ls' := [some (.ref y0), some (.int x1), some (.int q3.1), none, none, none]) C (jd jdt_Mo_qPartTold 9 rfl) (by decide) rfl rfl) ?_
          refine J_mono (w_aload_n C (jd jdt_Mo_qPartTold 10 rfl) rfl) ?_
          refine J_mono (w_bipush_6 C (jd jdt_Mo_qPartTold 11 rfl)) ?_
          refine J_mono (w_bipush_8 C (jd jdt_Mo_qPartTold 12 rfl)) ?_
          refine J_bind (fun q4 hq4 => ?_)
          refine J_mono (jc_Mo_542 C hy0 (C_Mo_qWordOf l G F y0 6 8 hy0 q3.2 hq4) rfl (Nat.le_trans (Nat.le_of_ble_eq_true rfl : 4 + 1 ≤ 6) hD) (jd jdt_Mo_qPartTold 13 rfl)) ?_
          refine J_mono (w_istore_n (ls' := [some (.ref y0), some (.int x1), some (.int q3.1), some (.int q4.1), none, none]) C (jd jdt_Mo_qPartTold 14 rfl) (by decide) rfl rfl) ?_
          refine J_mono (w_iload_n C (jd jdt_Mo_qPartTold 15 rfl) rfl) ?_
          refine J_mono (w_bipush_40 C (jd jdt_Mo_qPartTold 16 rfl)) ?_
          refine J_seq (fun (q5 : Int32 × SM) => Wk p l e R s m args below meth c G 6 Q 0 0 jN0 (jce G q5.2) 183 [some (.ref y0), some (.int q5.1), none, none, none, none] []) ?_ (fun q5 hq5 => ?_)
          · refine J_br (w_icmp_ne C (jd jdt_Mo_qPartTold 17 rfl) rfl) (fun h6 => J_pos h6 ?_) (fun h6 => J_neg h6 ?_)
            · refine J_mono (w_aload_n C (jd jdt_Mo_qPartTold 18 rfl) rfl) ?_
              refine J_mono (w_bipush_20 C (jd jdt_Mo_qPartTold 19 rfl)) ?_
              refine J_mono (w_aload_n C (jd jdt_Mo_qPartTold 20 rfl) rfl) ?_
              refine J_mono (jg_Mo_224 C hy0 (jd jdt_Mo_qPartTold 21 rfl)) ?_
              refine J_bind (fun q7 hq7 => ?_)
              refine J_mono (jc_Mo_545 C hy0 (C_Mo_qOpens l G F y0 20 (q4.2.1 y0 2) hy0 q4.2 hq7) rfl (Nat.le_trans (Nat.le_of_ble_eq_true rfl : 2 + 1 ≤ 6) hD) (jd jdt_Mo_qPartTold 22 rfl)) ?_
              refine J_mono (w_aload_n C (jd jdt_Mo_qPartTold 23 rfl) rfl) ?_
              refine J_mono (w_dup_r C (jd jdt_Mo_qPartTold 24 rfl)) ?_
              refine J_mono (jg_Mo_224 C hy0 (jd jdt_Mo_qPartTold 25 rfl)) ?_
              refine J_mono (w_iconst_1 C (jd jdt_Mo_qPartTold 26 rfl)) ?_
              refine J_mono (w_iadd C (jd jdt_Mo_qPartTold 27 rfl)) ?_
              refine J_mono (jp_Mo_224 C F hy0 (jd jdt_Mo_qPartTold 28 rfl)) ?_
              refine J_mono (w_goto C (jd jdt_Mo_qPartTold 29 rfl) rfl) ?_
              exact J_some (fun hx => Wk_sb hx ⟨rfl, rfl, trivial⟩)
            · refine J_mono (w_aload_n C (jd jdt_Mo_qPartTold 30 rfl) rfl) ?_
              refine J_mono (w_aload_n C (jd jdt_Mo_qPartTold 31 rfl) rfl) ?_
              refine J_mono (jg_Mo_173 C hy0 (jd jdt_Mo_qPartTold 32 rfl)) ?_
              refine J_bind (fun q8 hq8 => ?_)
              refine J_mono (jc_Mo_241 C hy0 (C_Mo_isHere l G F y0 (jpf y0 78) hy0 (jkf_12_78 hy0) q4.2 hq8) rfl (Nat.le_trans (Nat.le_of_ble_eq_true rfl : 2 + 1 ≤ 6) hD) (jd jdt_Mo_qPartTold 33 rfl)) ?_
              refine J_br (w_if_ne (y := 0) C (jd jdt_Mo_qPartTold 34 rfl) rfl) (fun h9 => J_pos h9 ?_) (fun h9 => J_neg h9 ?_)
              · refine J_mono (w_aload_n C (jd jdt_Mo_qPartTold 35 rfl) rfl) ?_
                refine J_mono (w_aload_n C (jd jdt_Mo_qPartTold 36 rfl) rfl) ?_
                refine J_mono (jg_Mo_176 C hy0 (jd jdt_Mo_qPartTold 37 rfl)) ?_
                refine J_bind (fun q10 hq10 => ?_)
                refine J_mono (jc_Mo_241 C hy0 (C_Mo_isHere l G F y0 (jpf y0 79) hy0 (jkf_12_79 hy0) q8.2 hq10) rfl (Nat.le_trans (Nat.le_of_ble_eq_true rfl : 2 + 1 ≤ 6) hD) (jd jdt_Mo_qPartTold 38 rfl)) ?_
                refine J_br (w_if_eq (y := 0) C (jd jdt_Mo_qPartTold 39 rfl) rfl) (fun h11 => J_pos h11 ?_) (fun h11 => J_neg h11 ?_)
                · refine J_mono (w_iload_n C (jd jdt_Mo_qPartTold 75 rfl) rfl) ?_
                  refine J_mono (w_iconst_m1 C (jd jdt_Mo_qPartTold 76 rfl)) ?_
                  refine J_br (w_icmp_eq C (jd jdt_Mo_qPartTold 77 rfl) rfl) (fun h12 => J_pos h12 ?_) (fun h12 => J_neg h12 ?_)
                  · refine J_mono (w_iconst_0 C (jd jdt_Mo_qPartTold 91 rfl)) ?_
                    refine J_mono (w_istore_n (ls' := [some (.ref y0), some (.int 0), some (.int q3.1), some (.int q4.1), none, none]) C (jd jdt_Mo_qPartTold 92 rfl) (by decide) rfl rfl) ?_
                    exact J_some (fun hx => Wk_sb hx ⟨rfl, rfl, trivial⟩)
                  · refine J_mono (w_aload_n C (jd jdt_Mo_qPartTold 78 rfl) rfl) ?_
                    refine J_mono (w_bipush_60 C (jd jdt_Mo_qPartTold 79 rfl)) ?_
                    refine J_mono (w_iload_n C (jd jdt_Mo_qPartTold 80 rfl) rfl) ?_
                    refine J_mono (w_iadd C (jd jdt_Mo_qPartTold 81 rfl)) ?_
                    refine J_mono (w_bipush_6 C (jd jdt_Mo_qPartTold 82 rfl)) ?_
                    refine J_mono (w_isub C (jd jdt_Mo_qPartTold 83 rfl)) ?_
                    refine J_mono (w_aload_n C (jd jdt_Mo_qPartTold 84 rfl) rfl) ?_
                    refine J_mono (jg_Mo_224 C hy0 (jd jdt_Mo_qPartTold 85 rfl)) ?_
                    refine J_bind (fun q13 hq13 => ?_)
                    refine J_mono (jc_Mo_545 C hy0 (C_Mo_qOpens l G F y0 ((60 + q4.1) - 6) (q10.2.1 y0 2) hy0 q10.2 hq13) rfl (Nat.le_trans (Nat.le_of_ble_eq_true rfl : 2 + 1 ≤ 6) hD) (jd jdt_Mo_qPartTold 86 rfl)) ?_
                    refine J_mono (w_aload_n C (jd jdt_Mo_qPartTold 87 rfl) rfl) ?_
                    refine J_mono (w_iload_n C (jd jdt_Mo_qPartTold 88 rfl) rfl) ?_
                    refine J_bind (fun q14 hq14 => ?_)
                    refine J_mono (jc_Mo_548 C hy0 (C_Mo_qAsksWord l G F y0 q4.1 hy0 q13 hq14) rfl (Nat.le_trans (Nat.le_of_ble_eq_true rfl : 5 + 1 ≤ 6) hD) (jd jdt_Mo_qPartTold 89 rfl)) ?_
                    refine J_mono (w_goto C (jd jdt_Mo_qPartTold 90 rfl) rfl) ?_
                    exact J_some (fun hx => Wk_sb hx ⟨rfl, rfl, trivial⟩)
                · refine J_mono (w_aload_n C (jd jdt_Mo_qPartTold 40 rfl) rfl) ?_
                  refine J_mono (w_aload_n C (jd jdt_Mo_qPartTold 41 rfl) rfl) ?_
                  refine J_mono (jg_Mo_173 C hy0 (jd jdt_Mo_qPartTold 42 rfl)) ?_
                  refine J_bind (fun q15 hq15 => ?_)
                  refine J_mono (jc_Mo_245 C hy0 (C_Mo_takes l G F y0 (jpf y0 78) hy0 (jkf_12_78 hy0) q10.2 hq15) rfl (Nat.le_trans (Nat.le_of_ble_eq_true rfl : 3 + 1 ≤ 6) hD) (jd jdt_Mo_qPartTold 43 rfl)) ?_
                  refine J_mono (w_istore (ls' := [some (.ref y0), some (.int x1), some (.int q3.1), some (.int q4.1), some (.int q15.1), none]) C (jd jdt_Mo_qPartTold 44 rfl) (by decide) rfl rfl) ?_
                  refine J_mono (w_iload C (jd jdt_Mo_qPartTold 45 rfl) rfl) ?_
                  refine J_seq (fun (q16 : SM) => Wk p l e R s m args below meth c G 6 Q 0 0 jN0 (jce G q16) 101 [some (.ref y0), some (.int x1), none, none, some (.int q15.1), none] []) ?_ (fun q16 hq16 => ?_)
                  · refine J_br (w_if_ne (y := 0) C (jd jdt_Mo_qPartTold 46 rfl) rfl) (fun h17 => J_pos h17 ?_) (fun h17 => J_neg h17 ?_)
                    · refine J_mono (w_aload_n C (jd jdt_Mo_qPartTold 47 rfl) rfl) ?_
                      refine J_mono (w_aload_n C (jd jdt_Mo_qPartTold 48 rfl) rfl) ?_
                      refine J_mono (jg_Mo_176 C hy0 (jd jdt_Mo_qPartTold 49 rfl)) ?_
                      refine J_bind (fun q18 hq18 => ?_)
                      refine J_mono (jc_Mo_304 C hy0 (C_Mo_asks l G F y0 (jpf y0 79) hy0 (jkf_12_79 hy0) q15.2 hq18) rfl (Nat.le_trans (Nat.le_of_ble_eq_true rfl : 4 + 1 ≤ 6) hD) (jd jdt_Mo_qPartTold 50 rfl)) ?_
                      exact J_some (fun hx => Wk_sb hx ⟨rfl, rfl, rfl, trivial⟩)
                    · exact J_some (fun hx => Wk_sb hx ⟨rfl, rfl, rfl, trivial⟩)
                  · refine J_mono (w_aload_n C (jd jdt_Mo_qPartTold 51 rfl) rfl) ?_
                    refine J_bind (fun q19 hq19 => ?_)
                    refine J_mono (jc_Mo_230 C hy0 (C_Mo_look l G F y0 hy0 q16 hq19) rfl (Nat.le_trans (Nat.le_of_ble_eq_true rfl : 1 + 1 ≤ 6) hD) (jd jdt_Mo_qPartTold 52 rfl)) ?_
                    refine J_mono (w_bipush_40 C (jd jdt_Mo_qPartTold 53 rfl)) ?_
                    refine J_seq (fun (q20 : Int32) => Wk p l e R s m args below meth c G 6 Q 0 0 jN0 (jce G q19.2) 118 [some (.ref y0), some (.int x1), none, none, some (.int q15.1), none] [.int q20]) ?_ (fun q20 hq20 => ?_)
                    · refine J_br (w_icmp_ne C (jd jdt_Mo_qPartTold 54 rfl) rfl) (fun h21 => J_pos h21 ?_) (fun h21 => J_neg h21 ?_)
                      · refine J_mono (w_aload_n C (jd jdt_Mo_qPartTold 55 rfl) rfl) ?_
                        refine J_mono (jg_Mo_224 C hy0 (jd jdt_Mo_qPartTold 56 rfl)) ?_
                        refine J_mono (w_goto C (jd jdt_Mo_qPartTold 57 rfl) rfl) ?_
                        exact J_some (fun hx => Wk_sb hx ⟨rfl, rfl, rfl, trivial⟩)
                      · refine J_mono (w_iconst_m1 C (jd jdt_Mo_qPartTold 58 rfl)) ?_
                        exact J_some (fun hx => Wk_sb hx ⟨rfl, rfl, rfl, trivial⟩)
                    · refine J_mono (w_istore (ls' := [some (.ref y0), some (.int x1), none, none, some (.int q15.1), some (.int q20)]) C (jd jdt_Mo_qPartTold 59 rfl) (by decide) rfl rfl) ?_
                      refine J_mono (w_iload C (jd jdt_Mo_qPartTold 60 rfl) rfl) ?_
                      refine J_mono (w_iconst_m1 C (jd jdt_Mo_qPartTold 61 rfl)) ?_
                      refine J_seq (fun (q22 : SM) => Wk p l e R s m args below meth c G 6 Q 0 0 jN0 (jce G q22) 144 [some (.ref y0), some (.int x1), none, none, none, none] []) ?_ (fun q22 hq22 => ?_)
                      · refine J_br (w_icmp_eq C (jd jdt_Mo_qPartTold 62 rfl) rfl) (fun h23 => J_pos h23 ?_) (fun h23 => J_neg h23 ?_)
                        · exact J_some (fun hx => Wk_sb hx ⟨rfl, rfl, trivial⟩)
                        · refine J_mono (w_aload_n C (jd jdt_Mo_qPartTold 63 rfl) rfl) ?_
                          refine J_mono (w_iload C (jd jdt_Mo_qPartTold 64 rfl) rfl) ?_
                          refine J_seq (fun (q24 : Int32) => Wk p l e R s m args below meth c G 6 Q 0 0 jN0 (jce G q19.2) 139 [some (.ref y0), some (.int x1), none, none, none, some (.int q20)] [.int q24, .ref y0]) ?_ (fun q24 hq24 => ?_)
                          · refine J_br (w_if_eq (y := 0) C (jd jdt_Mo_qPartTold 65 rfl) rfl) (fun h25 => J_pos h25 ?_) (fun h25 => J_neg h25 ?_)
                            · refine J_mono (w_bipush_22 C (jd jdt_Mo_qPartTold 68 rfl)) ?_
                              exact J_some (fun hx => Wk_sb hx ⟨rfl, rfl, rfl, trivial⟩)
                            · refine J_mono (w_bipush_21 C (jd jdt_Mo_qPartTold 66 rfl)) ?_
                              refine J_mono (w_goto C (jd jdt_Mo_qPartTold 67 rfl) rfl) ?_
                              exact J_some (fun hx => Wk_sb hx ⟨rfl, rfl, rfl, trivial⟩)
                          · refine J_mono (w_iload C (jd jdt_Mo_qPartTold 69 rfl) rfl) ?_
                            refine J_bind (fun q26 hq26 => ?_)
                            refine J_mono (jc_Mo_545 C hy0 (C_Mo_qOpens l G F y0 q24 q20 hy0 q19.2 hq26) rfl (Nat.le_trans (Nat.le_of_ble_eq_true rfl : 2 + 1 ≤ 6) hD) (jd jdt_Mo_qPartTold 70 rfl)) ?_
                            exact J_some (fun hx => Wk_sb hx ⟨rfl, rfl, trivial⟩)
                      · refine J_mono (w_aload_n C (jd jdt_Mo_qPartTold 71 rfl) rfl) ?_
                        refine J_mono (w_bipush_40 C (jd jdt_Mo_qPartTold 72 rfl)) ?_
                        refine J_bind (fun q27 hq27 => ?_)
                        refine J_mono (jc_Mo_301 C hy0 (C_Mo_asksSign l G F y0 40 hy0 q22 hq27) rfl (Nat.le_trans (Nat.le_of_ble_eq_true rfl : 3 + 1 ≤ 6) hD) (jd jdt_Mo_qPartTold 73 rfl)) ?_
                        refine J_mono (w_goto C (jd jdt_Mo_qPartTold 74 rfl) rfl) ?_
                        exact J_some (fun hx => Wk_sb hx ⟨rfl, rfl, trivial⟩)
              · refine J_mono (w_aload_n C (jd jdt_Mo_qPartTold 40 rfl) rfl) ?_
                refine J_mono (w_aload_n C (jd jdt_Mo_qPartTold 41 rfl) rfl) ?_
                refine J_mono (jg_Mo_173 C hy0 (jd jdt_Mo_qPartTold 42 rfl)) ?_
                refine J_bind (fun q28 hq28 => ?_)
                refine J_mono (jc_Mo_245 C hy0 (C_Mo_takes l G F y0 (jpf y0 78) hy0 (jkf_12_78 hy0) q8.2 hq28) rfl (Nat.le_trans (Nat.le_of_ble_eq_true rfl : 3 + 1 ≤ 6) hD) (jd jdt_Mo_qPartTold 43 rfl)) ?_
                refine J_mono (w_istore (ls' := [some (.ref y0), some (.int x1), some (.int q3.1), some (.int q4.1), some (.int q28.1), none]) C (jd jdt_Mo_qPartTold 44 rfl) (by decide) rfl rfl) ?_
                refine J_mono (w_iload C (jd jdt_Mo_qPartTold 45 rfl) rfl) ?_
                refine J_seq (fun (q29 : SM) => Wk p l e R s m args below meth c G 6 Q 0 0 jN0 (jce G q29) 101 [some (.ref y0), some (.int x1), none, none, some (.int q28.1), none] []) ?_ (fun q29 hq29 => ?_)
                · refine J_br (w_if_ne (y := 0) C (jd jdt_Mo_qPartTold 46 rfl) rfl) (fun h30 => J_pos h30 ?_) (fun h30 => J_neg h30 ?_)
                  · refine J_mono (w_aload_n C (jd jdt_Mo_qPartTold 47 rfl) rfl) ?_
                    refine J_mono (w_aload_n C (jd jdt_Mo_qPartTold 48 rfl) rfl) ?_
                    refine J_mono (jg_Mo_176 C hy0 (jd jdt_Mo_qPartTold 49 rfl)) ?_
                    refine J_bind (fun q31 hq31 => ?_)
                    refine J_mono (jc_Mo_304 C hy0 (C_Mo_asks l G F y0 (jpf y0 79) hy0 (jkf_12_79 hy0) q28.2 hq31) rfl (Nat.le_trans (Nat.le_of_ble_eq_true rfl : 4 + 1 ≤ 6) hD) (jd jdt_Mo_qPartTold 50 rfl)) ?_
                    exact J_some (fun hx => Wk_sb hx ⟨rfl, rfl, rfl, trivial⟩)
                  · exact J_some (fun hx => Wk_sb hx ⟨rfl, rfl, rfl, trivial⟩)
                · refine J_mono (w_aload_n C (jd jdt_Mo_qPartTold 51 rfl) rfl) ?_
                  refine J_bind (fun q32 hq32 => ?_)
                  refine J_mono (jc_Mo_230 C hy0 (C_Mo_look l G F y0 hy0 q29 hq32) rfl (Nat.le_trans (Nat.le_of_ble_eq_true rfl : 1 + 1 ≤ 6) hD) (jd jdt_Mo_qPartTold 52 rfl)) ?_
                  refine J_mono (w_bipush_40 C (jd jdt_Mo_qPartTold 53 rfl)) ?_
                  refine J_seq (fun (q33 : Int32) => Wk p l e R s m args below meth c G 6 Q 0 0 jN0 (jce G q32.2) 118 [some (.ref y0), some (.int x1), none, none, some (.int q28.1), none] [.int q33]) ?_ (fun q33 hq33 => ?_)
                  · refine J_br (w_icmp_ne C (jd jdt_Mo_qPartTold 54 rfl) rfl) (fun h34 => J_pos h34 ?_) (fun h34 => J_neg h34 ?_)
                    · refine J_mono (w_aload_n C (jd jdt_Mo_qPartTold 55 rfl) rfl) ?_
                      refine J_mono (jg_Mo_224 C hy0 (jd jdt_Mo_qPartTold 56 rfl)) ?_
                      refine J_mono (w_goto C (jd jdt_Mo_qPartTold 57 rfl) rfl) ?_
                      exact J_some (fun hx => Wk_sb hx ⟨rfl, rfl, rfl, trivial⟩)
                    · refine J_mono (w_iconst_m1 C (jd jdt_Mo_qPartTold 58 rfl)) ?_
                      exact J_some (fun hx => Wk_sb hx ⟨rfl, rfl, rfl, trivial⟩)
                  · refine J_mono (w_istore (ls' := [some (.ref y0), some (.int x1), none, none, some (.int q28.1), some (.int q33)]) C (jd jdt_Mo_qPartTold 59 rfl) (by decide) rfl rfl) ?_
                    refine J_mono (w_iload C (jd jdt_Mo_qPartTold 60 rfl) rfl) ?_
                    refine J_mono (w_iconst_m1 C (jd jdt_Mo_qPartTold 61 rfl)) ?_
                    refine J_seq (fun (q35 : SM) => Wk p l e R s m args below meth c G 6 Q 0 0 jN0 (jce G q35) 144 [some (.ref y0), some (.int x1), none, none, none, none] []) ?_ (fun q35 hq35 => ?_)
                    · refine J_br (w_icmp_eq C (jd jdt_Mo_qPartTold 62 rfl) rfl) (fun h36 => J_pos h36 ?_) (fun h36 => J_neg h36 ?_)
                      · exact J_some (fun hx => Wk_sb hx ⟨rfl, rfl, trivial⟩)
                      · refine J_mono (w_aload_n C (jd jdt_Mo_qPartTold 63 rfl) rfl) ?_
                        refine J_mono (w_iload C (jd jdt_Mo_qPartTold 64 rfl) rfl) ?_
                        refine J_seq (fun (q37 : Int32) => Wk p l e R s m args below meth c G 6 Q 0 0 jN0 (jce G q32.2) 139 [some (.ref y0), some (.int x1), none, none, none, some (.int q33)] [.int q37, .ref y0]) ?_ (fun q37 hq37 => ?_)
                        · refine J_br (w_if_eq (y := 0) C (jd jdt_Mo_qPartTold 65 rfl) rfl) (fun h38 => J_pos h38 ?_) (fun h38 => J_neg h38 ?_)
                          · refine J_mono (w_bipush_22 C (jd jdt_Mo_qPartTold 68 rfl)) ?_
                            exact J_some (fun hx => Wk_sb hx ⟨rfl, rfl, rfl, trivial⟩)
                          · refine J_mono (w_bipush_21 C (jd jdt_Mo_qPartTold 66 rfl)) ?_
                            refine J_mono (w_goto C (jd jdt_Mo_qPartTold 67 rfl) rfl) ?_
                            exact J_some (fun hx => Wk_sb hx ⟨rfl, rfl, rfl, trivial⟩)
                        · refine J_mono (w_iload C (jd jdt_Mo_qPartTold 69 rfl) rfl) ?_
                          refine J_bind (fun q39 hq39 => ?_)
                          refine J_mono (jc_Mo_545 C hy0 (C_Mo_qOpens l G F y0 q37 q33 hy0 q32.2 hq39) rfl (Nat.le_trans (Nat.le_of_ble_eq_true rfl : 2 + 1 ≤ 6) hD) (jd jdt_Mo_qPartTold 70 rfl)) ?_
                          exact J_some (fun hx => Wk_sb hx ⟨rfl, rfl, trivial⟩)
                    · refine J_mono (w_aload_n C (jd jdt_Mo_qPartTold 71 rfl) rfl) ?_
                      refine J_mono (w_bipush_40 C (jd jdt_Mo_qPartTold 72 rfl)) ?_
                      refine J_bind (fun q40 hq40 => ?_)
                      refine J_mono (jc_Mo_301 C hy0 (C_Mo_asksSign l G F y0 40 hy0 q35 hq40) rfl (Nat.le_trans (Nat.le_of_ble_eq_true rfl : 3 + 1 ≤ 6) hD) (jd jdt_Mo_qPartTold 73 rfl)) ?_
                      refine J_mono (w_goto C (jd jdt_Mo_qPartTold 74 rfl) rfl) ?_
                      exact J_some (fun hx => Wk_sb hx ⟨rfl, rfl, trivial⟩)
          · refine J_mono (w_goto C (jd jdt_Mo_qPartTold 93 rfl) rfl) ?_
            exact J_sub (ih q5.1 q5.2) ⟨rfl, rfl, trivial⟩
        · exact J_some (fun hx => Wk_sb hx ⟨rfl, trivial⟩)
  refine J_seq (fun (q41 : SM) => Wk p l e R s m args below meth c G 6 Q 0 0 jN0 (jce G q41) 186 [some (.ref a0), none, none, none, none, none] []) (J_sub (L2 a0 hp0 jfuel 1 M) ⟨rfl, rfl, trivial⟩) (fun q41 hq41 => ?_)
  refine J_mono (w_aload_n C (jd jdt_Mo_qPartTold 94 rfl) rfl) ?_
  refine J_mono (jg_Mo_218 C hp0 (jd jdt_Mo_qPartTold 95 rfl)) ?_
  refine J_br (w_if_eq (y := 0) C (jd jdt_Mo_qPartTold 96 rfl) rfl) (fun h42 => J_pos h42 ?_) (fun h42 => J_neg h42 ?_)
  · refine J_mono (w_aload_n C (jd jdt_Mo_qPartTold 98 rfl) rfl) ?_
    refine J_mono (w_iconst_0 C (jd jdt_Mo_qPartTold 99 rfl)) ?_
    refine J_mono (w_bipush_6 C (jd jdt_Mo_qPartTold 100 rfl)) ?_
    refine J_bind (fun q43 hq43 => ?_)
    refine J_mono (jc_Mo_542 C hp0 (C_Mo_qWordOf l G F a0 0 6 hp0 q41 hq43) rfl (Nat.le_trans (Nat.le_of_ble_eq_true rfl : 4 + 1 ≤ 6) hD) (jd jdt_Mo_qPartTold 101 rfl)) ?_
    refine J_mono (w_istore_n (ls' := [some (.ref a0), none, some (.int q43.1), none, none, none]) C (jd jdt_Mo_qPartTold 102 rfl) (by decide) rfl rfl) ?_
    refine J_mono (w_iload_n C (jd jdt_Mo_qPartTold 103 rfl) rfl) ?_
    refine J_mono (w_iconst_m1 C (jd jdt_Mo_qPartTold 104 rfl)) ?_
    refine J_seq (fun (q44 : SM) => Wk p l e R s m args below meth c G 6 Q 0 0 jN0 (jce G q44) 212 [some (.ref a0), none, some (.int q43.1), none, none, none] []) ?_ (fun q44 hq44 => ?_)
    · refine J_br (w_icmp_eq C (jd jdt_Mo_qPartTold 105 rfl) rfl) (fun h45 => J_pos h45 ?_) (fun h45 => J_neg h45 ?_)
      · exact J_some (fun hx => Wk_sb hx ⟨rfl, rfl, trivial⟩)
      · refine J_mono (w_aload_n C (jd jdt_Mo_qPartTold 106 rfl) rfl) ?_
        refine J_mono (w_iload_n C (jd jdt_Mo_qPartTold 107 rfl) rfl) ?_
        refine J_bind (fun q46 hq46 => ?_)
        refine J_mono (jc_Mo_548 C hp0 (C_Mo_qAsksWord l G F a0 q43.1 hp0 q43.2 hq46) rfl (Nat.le_trans (Nat.le_of_ble_eq_true rfl : 5 + 1 ≤ 6) hD) (jd jdt_Mo_qPartTold 108 rfl)) ?_
        exact J_some (fun hx => Wk_sb hx ⟨rfl, rfl, trivial⟩)
    · refine J_mono (w_aload_n C (jd jdt_Mo_qPartTold 109 rfl) rfl) ?_
      refine J_mono (w_iload_n C (jd jdt_Mo_qPartTold 110 rfl) rfl) ?_
      refine J_mono (w_iconst_m1 C (jd jdt_Mo_qPartTold 111 rfl)) ?_
      refine J_seq (fun (q47 : Int32 × SM) => Wk p l e R s m args below meth c G 6 Q 0 0 jN0 (jce G q47.2) 237 [some (.ref a0), none, none, none, none, none] [.int q47.1, .ref a0]) ?_ (fun q47 hq47 => ?_)
      · refine J_br (w_icmp_eq C (jd jdt_Mo_qPartTold 112 rfl) rfl) (fun h48 => J_pos h48 ?_) (fun h48 => J_neg h48 ?_)
        · refine J_mono (w_sipush_1000 C (jd jdt_Mo_qPartTold 117 rfl)) ?_
          refine J_mono (w_aload_n C (jd jdt_Mo_qPartTold 118 rfl) rfl) ?_
          refine J_mono (w_iconst_0 C (jd jdt_Mo_qPartTold 119 rfl)) ?_
          refine J_mono (w_sipush_9999 C (jd jdt_Mo_qPartTold 120 rfl)) ?_
          refine J_bind (fun q49 hq49 => ?_)
          refine J_mono (jc_Mo_283 C hp0 (C_Mo_number l G F a0 0 9999 hp0 q44 hq49) rfl (Nat.le_trans (Nat.le_of_ble_eq_true rfl : 2 + 1 ≤ 6) hD) (jd jdt_Mo_qPartTold 121 rfl)) ?_
          refine J_mono (w_iadd C (jd jdt_Mo_qPartTold 122 rfl)) ?_
          exact J_some (fun hx => Wk_sb hx ⟨rfl, trivial⟩)
        · refine J_mono (w_bipush_40 C (jd jdt_Mo_qPartTold 113 rfl)) ?_
          refine J_mono (w_iload_n C (jd jdt_Mo_qPartTold 114 rfl) rfl) ?_
          refine J_mono (w_iadd C (jd jdt_Mo_qPartTold 115 rfl)) ?_
          refine J_mono (w_goto C (jd jdt_Mo_qPartTold 116 rfl) rfl) ?_
          exact J_some (fun hx => Wk_sb hx ⟨rfl, trivial⟩)
      · refine J_bind (fun q50 hq50 => ?_)
        refine J_mono (jc_Mo_527 C hp0 (C_Mo_qCode l G F a0 q47.1 hp0 q47.2 hq50) rfl (Nat.le_trans (Nat.le_of_ble_eq_true rfl : 1 + 1 ≤ 6) hD) (jd jdt_Mo_qPartTold 123 rfl)) ?_
        refine J_mono (w_aload_n C (jd jdt_Mo_qPartTold 124 rfl) rfl) ?_
        refine J_bind (fun q51 hq51 => ?_)
        refine J_mono (jc_Mo_551 C hp0 (C_Mo_qEndsPart l G F a0 hp0 q50 hq51) rfl (Nat.le_trans (Nat.le_of_ble_eq_true rfl : 3 + 1 ≤ 6) hD) (jd jdt_Mo_qPartTold 125 rfl)) ?_
        exact J_some (fun hx => hR q51 hx _ _ (jd jdt_Mo_qPartTold 126 rfl))
  · exact J_some (fun hx => hR q41 hx _ _ (jd jdt_Mo_qPartTold 97 rfl))
end
theorem C_Mo_qPartTold (l : Launch) (G : JG) (F : jF G = false) (a0 : Nat) (hp0 : jkd a0 12) (M : SM) {q : SM} (hf : f_Mo_qPartTold a0 M = some q) : jMet l jy_Mo_qPartTold jb_Mo_qPartTold 6 none 6 0 0 G [.ref a0] jN0 (jce G M) none jN0 (jce G q) :=
  j_met jo_Mo_qPartTold (by decide) (Nat.le_of_ble_eq_true rfl) (fun p e s m args below meth c C hr hm => K_Mo_qPartTold C F (Nat.le_refl _) a0 hp0 M (fun t => t = q) (fun M' hX pc ls hd => by cases hX; exact w_vret C hr hd) _ hf rfl)
def f_Mo_qIsBracket (a0 : Int32) : Option Int32 := if a0 < 20 then (some 0) else (if 24 < a0 then (some 0) else (some 1))
section
variable {p : Program} {l : Launch} {e : Env} {R : Room} {s : State} {m : MethodId} {args : Array Value} {below : List Frame} {meth : Method} {c : Code} {G : JG} {D : Nat} {Q : State → Prop}
set_option maxHeartbeats 4000000 in
set_option maxRecDepth 20000 in
theorem K_Mo_qIsBracket (C : jCx p R s m args meth c G jb_Mo_qIsBracket 1 D "SluicePitModel") (F : jF G = false) (hD : 1 ≤ D) (a0 : Int32)  (M : SM) (X : Int32 → Prop) (hR : ∀ v, X v → ∀ (pc : Nat) (ls : List (Option Value)), decode jb_Mo_qIsBracket pc = .ok (.ireturn, 1) → narrow FieldType.boolean (.int v) = .int v → Wk p l e R s m args below meth c G 1 Q 0 0 jN0 (jce G M) pc ls [.int v]) : J X (f_Mo_qIsBracket a0) (Wk p l e R s m args below meth c G 1 Q 0 0 jN0 (jce G M) 0 [some (.int a0)] []) := by
  unfold f_Mo_qIsBracket
  refine J_mono (w_iload_n C (jd jdt_Mo_qIsBracket 0 rfl) rfl) ?_
  refine J_mono (w_bipush_20 C (jd jdt_Mo_qIsBracket 1 rfl)) ?_
  refine J_br (w_icmp_lt C (jd jdt_Mo_qIsBracket 2 rfl) rfl) (fun h1 => J_pos h1 ?_) (fun h1 => J_neg h1 ?_)
  · refine J_mono (w_iconst_0 C (jd jdt_Mo_qIsBracket 8 rfl)) ?_
    exact J_some (fun hx => hR 0 hx _ _ (jd jdt_Mo_qIsBracket 9 rfl) rfl)
  · refine J_mono (w_iload_n C (jd jdt_Mo_qIsBracket 3 rfl) rfl) ?_
    refine J_mono (w_bipush_24 C (jd jdt_Mo_qIsBracket 4 rfl)) ?_
    refine J_br (w_icmp_gt C (jd jdt_Mo_qIsBracket 5 rfl) rfl) (fun h2 => J_pos h2 ?_) (fun h2 => J_neg h2 ?_)
    · refine J_mono (w_iconst_0 C (jd jdt_Mo_qIsBracket 8 rfl)) ?_
      exact J_some (fun hx => hR 0 hx _ _ (jd jdt_Mo_qIsBracket 9 rfl) rfl)
    · refine J_mono (w_iconst_1 C (jd jdt_Mo_qIsBracket 6 rfl)) ?_
      refine J_mono (w_goto C (jd jdt_Mo_qIsBracket 7 rfl) rfl) ?_
      exact J_some (fun hx => hR 1 hx _ _ (jd jdt_Mo_qIsBracket 9 rfl) rfl)
end
theorem C_Mo_qIsBracket (l : Launch) (G : JG) (F : jF G = false) (a0 : Int32)  (M : SM) {q : Int32} (hf : f_Mo_qIsBracket a0 = some q) : jMet l jy_Mo_qIsBracket jb_Mo_qIsBracket 1 (some FieldType.boolean) 1 0 0 G [.int a0] jN0 (jce G M) (some (.int q)) jN0 (jce G M) :=
  j_met jo_Mo_qIsBracket (by decide) (Nat.le_of_ble_eq_true rfl) (fun p e s m args below meth c C hr hm => K_Mo_qIsBracket C F (Nat.le_refl _) a0  M (fun t => t = q) (fun v hX pc ls hd hn => by cases hX; exact w_iret C hr hn hd) _ hf rfl)
def lp_Mo_qBracket_7 (y0 : Nat) (M : SM) : Nat → Int32 → Option (Int32)
  | 0, _ => none
  | n + 1, x1 => if x1 < (M.1 y0 93) then (some x1) else ((aI M (jpf y0 90) x1).bind fun v2 => (f_Mo_qIsBracket v2).bind fun q3 => if q3 = 0 then (lp_Mo_qBracket_7 y0 M n (x1 + (-1))) else (some x1))
def f_Mo_qBracket (a0 : Nat) (M : SM) : Option Int32 := (lp_Mo_qBracket_7 a0 M jfuel ((M.1 a0 91) - 1)).bind fun q5 => if q5 < (M.1 a0 93) then (some (-1)) else ((aI M (jpf a0 90) q5).bind fun v7 => some v7)
section
variable {p : Program} {l : Launch} {e : Env} {R : Room} {s : State} {m : MethodId} {args : Array Value} {below : List Frame} {meth : Method} {c : Code} {G : JG} {D : Nat} {Q : State → Prop}
set_option maxHeartbeats 4000000 in
set_option maxRecDepth 20000 in
theorem K_Mo_qBracket (C : jCx p R s m args meth c G jb_Mo_qBracket 2 D "SluicePitModel") (F : jF G = false) (hD : 2 ≤ D) (a0 : Nat) (hp0 : jkd a0 12) (M : SM) (X : Int32 → Prop) (hR : ∀ v, X v → ∀ (pc : Nat) (ls : List (Option Value)), decode jb_Mo_qBracket pc = .ok (.ireturn, 1) → narrow FieldType.int (.int v) = .int v → Wk p l e R s m args below meth c G 2 Q 0 0 jN0 (jce G M) pc ls [.int v]) : J X (f_Mo_qBracket a0 M) (Wk p l e R s m args below meth c G 2 Q 0 0 jN0 (jce G M) 0 [some (.ref a0), none] []) := by
  unfold f_Mo_qBracket
  refine J_mono (w_aload_n C (jd jdt_Mo_qBracket 0 rfl) rfl) ?_
  refine J_mono (jg_Mo_524 C hp0 (jd jdt_Mo_qBracket 1 rfl)) ?_
  refine J_mono (w_iconst_1 C (jd jdt_Mo_qBracket 2 rfl)) ?_
  refine J_mono (w_isub C (jd jdt_Mo_qBracket 3 rfl)) ?_
  refine J_mono (w_istore_n (ls' := [some (.ref a0), some (.int ((M.1 a0 91) - 1))]) C (jd jdt_Mo_qBracket 4 rfl) (by decide) rfl rfl) ?_
  have L7 : ∀ (y0 : Nat) (hy0 : jkd y0 12) (n : Nat) (x1 : Int32), J (fun (q5 : Int32) => Wk p l e R s m args below meth c G 2 Q 0 0 jN0 (jce G M) 33 [some (.ref y0), some (.int q5)] []) (lp_Mo_qBracket_7 y0 M n x1) (Wk p l e R s m args below meth c G 2 Q 0 0 jN0 (jce G M) 7 [some (.ref y0), some (.int x1)] []) := by
    intro y0 hy0 n
    induction n with
    | zero => intro x1; exact J_none
    | succ n ih =>
      intro x1
      unfold lp_Mo_qBracket_7
      refine J_mono (w_iload_n C (jd jdt_Mo_qBracket 5 rfl) rfl) ?_
      refine J_mono (w_aload_n C (jd jdt_Mo_qBracket 6 rfl) rfl) ?_
      refine J_mono (jg_Mo_530 C hy0 (jd jdt_Mo_qBracket 7 rfl)) ?_
      refine J_br (w_icmp_lt C (jd jdt_Mo_qBracket 8 rfl) rfl) (fun h1 => J_pos h1 ?_) (fun h1 => J_neg h1 ?_)
      · exact J_some (fun hx => Wk_sb hx ⟨rfl, rfl, trivial⟩)
      · refine J_mono (w_aload_n C (jd jdt_Mo_qBracket 9 rfl) rfl) ?_
        refine J_mono (jg_Mo_206 C hy0 (jd jdt_Mo_qBracket 10 rfl)) ?_
        refine J_mono (w_iload_n C (jd jdt_Mo_qBracket 11 rfl) rfl) ?_
        refine J_bind (fun v2 hv2 => ?_)
        refine J_mono (w_iald C (jkf_12_90 hy0) hv2 (jd jdt_Mo_qBracket 12 rfl)) ?_
        refine J_bind (fun q3 hq3 => ?_)
        refine J_mono (jc_Mo_533 C (C_Mo_qIsBracket l G F v2 M hq3) rfl (Nat.le_trans (Nat.le_of_ble_eq_true rfl : 1 + 1 ≤ 2) hD) (jd jdt_Mo_qBracket 13 rfl)) ?_
        refine J_br (w_if_ne (y := 0) C (jd jdt_Mo_qBracket 14 rfl) rfl) (fun h4 => J_pos h4 ?_) (fun h4 => J_neg h4 ?_)
        · refine J_mono (w_iinc (v := x1 + (-1)) (ls' := [some (.ref y0), some (.int (x1 + (-1)))]) C (jd jdt_Mo_qBracket 15 rfl) rfl rfl (by decide) rfl rfl) ?_
          refine J_mono (w_goto C (jd jdt_Mo_qBracket 16 rfl) rfl) ?_
          exact J_sub (ih (x1 + (-1))) ⟨rfl, rfl, trivial⟩
        · exact J_some (fun hx => Wk_sb hx ⟨rfl, rfl, trivial⟩)
  refine J_seq (fun (q5 : Int32) => Wk p l e R s m args below meth c G 2 Q 0 0 jN0 (jce G M) 33 [some (.ref a0), some (.int q5)] []) (J_sub (L7 a0 hp0 jfuel ((M.1 a0 91) - 1)) ⟨rfl, rfl, trivial⟩) (fun q5 hq5 => ?_)
  refine J_mono (w_iload_n C (jd jdt_Mo_qBracket 17 rfl) rfl) ?_
  refine J_mono (w_aload_n C (jd jdt_Mo_qBracket 18 rfl) rfl) ?_
  refine J_mono (jg_Mo_530 C hp0 (jd jdt_Mo_qBracket 19 rfl)) ?_
  refine J_br (w_icmp_lt C (jd jdt_Mo_qBracket 20 rfl) rfl) (fun h6 => J_pos h6 ?_) (fun h6 => J_neg h6 ?_)
  · refine J_mono (w_iconst_m1 C (jd jdt_Mo_qBracket 26 rfl)) ?_
    exact J_some (fun hx => hR (-1) hx _ _ (jd jdt_Mo_qBracket 27 rfl) rfl)
  · refine J_mono (w_aload_n C (jd jdt_Mo_qBracket 21 rfl) rfl) ?_
    refine J_mono (jg_Mo_206 C hp0 (jd jdt_Mo_qBracket 22 rfl)) ?_
    refine J_mono (w_iload_n C (jd jdt_Mo_qBracket 23 rfl) rfl) ?_
    refine J_bind (fun v7 hv7 => ?_)
    refine J_mono (w_iald C (jkf_12_90 hp0) hv7 (jd jdt_Mo_qBracket 24 rfl)) ?_
    refine J_mono (w_goto C (jd jdt_Mo_qBracket 25 rfl) rfl) ?_
    exact J_some (fun hx => hR v7 hx _ _ (jd jdt_Mo_qBracket 27 rfl) rfl)
end
theorem C_Mo_qBracket (l : Launch) (G : JG) (F : jF G = false) (a0 : Nat) (hp0 : jkd a0 12) (M : SM) {q : Int32} (hf : f_Mo_qBracket a0 M = some q) : jMet l jy_Mo_qBracket jb_Mo_qBracket 2 (some FieldType.int) 2 0 0 G [.ref a0] jN0 (jce G M) (some (.int q)) jN0 (jce G M) :=
  j_met jo_Mo_qBracket (by decide) (Nat.le_of_ble_eq_true rfl) (fun p e s m args below meth c C hr hm => K_Mo_qBracket C F (Nat.le_refl _) a0 hp0 M (fun t => t = q) (fun v hX pc ls hd hn => by cases hX; exact w_iret C hr hn hd) _ hf rfl)
def lp_Mo_qDropsToBracket_0 (y0 : Nat) : Nat → SM → Option (SM)
  | 0, _ => none
  | n + 1, M => if (M.1 y0 93) < (M.1 y0 91) then ((aI M (jpf y0 90) ((M.1 y0 91) - 1)).bind fun v2 => (f_Mo_qIsBracket v2).bind fun q3 => if q3 = 0 then ((f_Mo_qDrops y0 M).bind fun q5 => lp_Mo_qDropsToBracket_0 y0 n q5) else (some M)) else (some M)
def f_Mo_qDropsToBracket (a0 : Nat) (M : SM) : Option SM := (lp_Mo_qDropsToBracket_0 a0 jfuel M).bind fun q6 => some q6
section
variable {p : Program} {l : Launch} {e : Env} {R : Room} {s : State} {m : MethodId} {args : Array Value} {below : List Frame} {meth : Method} {c : Code} {G : JG} {D : Nat} {Q : State → Prop}
set_option maxHeartbeats 4000000 in
set_option maxRecDepth 20000 in
theorem K_Mo_qDropsToBracket (C : jCx p R s m args meth c G jb_Mo_qDropsToBracket 1 D "SluicePitModel") (F : jF G = false) (hD : 3 ≤ D) (a0 : Nat) (hp0 : jkd a0 12) (M : SM) (X : SM → Prop) (hR : ∀ M', X M' → ∀ (pc : Nat) (ls : List (Option Value)), decode jb_Mo_qDropsToBracket pc = .ok (.return_, 1) → Wk p l e R s m args below meth c G 1 Q 0 0 jN0 (jce G M') pc ls []) : J X (f_Mo_qDropsToBracket a0 M) (Wk p l e R s m args below meth c G 1 Q 0 0 jN0 (jce G M) 0 [some (.ref a0)] []) := by
  unfold f_Mo_qDropsToBracket
  have L0 : ∀ (y0 : Nat) (hy0 : jkd y0 12) (n : Nat)  (M : SM), J (fun (q6 : SM) => Wk p l e R s m args below meth c G 1 Q 0 0 jN0 (jce G q6) 35 [none] []) (lp_Mo_qDropsToBracket_0 y0 n M) (Wk p l e R s m args below meth c G 1 Q 0 0 jN0 (jce G M) 0 [some (.ref y0)] []) := by
    intro y0 hy0 n
    induction n with
    | zero => intro  M; exact J_none
    | succ n ih =>
      intro  M
      unfold lp_Mo_qDropsToBracket_0
      refine J_mono (w_aload_n C (jd jdt_Mo_qDropsToBracket 0 rfl) rfl) ?_
      refine J_mono (jg_Mo_524 C hy0 (jd jdt_Mo_qDropsToBracket 1 rfl)) ?_
      refine J_mono (w_aload_n C (jd jdt_Mo_qDropsToBracket 2 rfl) rfl) ?_
      refine J_mono (jg_Mo_530 C hy0 (jd jdt_Mo_qDropsToBracket 3 rfl)) ?_
      refine J_br (w_icmp_le C (jd jdt_Mo_qDropsToBracket 4 rfl) rfl) (fun h1 => J_pos h1 ?_) (fun h1 => J_neg h1 ?_)
      · refine J_mono (w_aload_n C (jd jdt_Mo_qDropsToBracket 5 rfl) rfl) ?_
        refine J_mono (jg_Mo_206 C hy0 (jd jdt_Mo_qDropsToBracket 6 rfl)) ?_
        refine J_mono (w_aload_n C (jd jdt_Mo_qDropsToBracket 7 rfl) rfl) ?_
        refine J_mono (jg_Mo_524 C hy0 (jd jdt_Mo_qDropsToBracket 8 rfl)) ?_
        refine J_mono (w_iconst_1 C (jd jdt_Mo_qDropsToBracket 9 rfl)) ?_
        refine J_mono (w_isub C (jd jdt_Mo_qDropsToBracket 10 rfl)) ?_
        refine J_bind (fun v2 hv2 => ?_)
        refine J_mono (w_iald C (jkf_12_90 hy0) hv2 (jd jdt_Mo_qDropsToBracket 11 rfl)) ?_
        refine J_bind (fun q3 hq3 => ?_)
        refine J_mono (jc_Mo_533 C (C_Mo_qIsBracket l G F v2 M hq3) rfl (Nat.le_trans (Nat.le_of_ble_eq_true rfl : 1 + 1 ≤ 3) hD) (jd jdt_Mo_qDropsToBracket 12 rfl)) ?_
        refine J_br (w_if_ne (y := 0) C (jd jdt_Mo_qDropsToBracket 13 rfl) rfl) (fun h4 => J_pos h4 ?_) (fun h4 => J_neg h4 ?_)
        · refine J_mono (w_aload_n C (jd jdt_Mo_qDropsToBracket 14 rfl) rfl) ?_
          refine J_bind (fun q5 hq5 => ?_)
          refine J_mono (jc_Mo_536 C hy0 (C_Mo_qDrops l G F y0 hy0 M hq5) rfl (Nat.le_trans (Nat.le_of_ble_eq_true rfl : 2 + 1 ≤ 3) hD) (jd jdt_Mo_qDropsToBracket 15 rfl)) ?_
          refine J_mono (w_goto C (jd jdt_Mo_qDropsToBracket 16 rfl) rfl) ?_
          exact J_sub (ih q5) ⟨rfl, trivial⟩
        · exact J_some (fun hx => Wk_sb hx trivial)
      · exact J_some (fun hx => Wk_sb hx trivial)
  refine J_seq (fun (q6 : SM) => Wk p l e R s m args below meth c G 1 Q 0 0 jN0 (jce G q6) 35 [none] []) (J_sub (L0 a0 hp0 jfuel M) ⟨rfl, trivial⟩) (fun q6 hq6 => ?_)
  exact J_some (fun hx => hR q6 hx _ _ (jd jdt_Mo_qDropsToBracket 17 rfl))
end
theorem C_Mo_qDropsToBracket (l : Launch) (G : JG) (F : jF G = false) (a0 : Nat) (hp0 : jkd a0 12) (M : SM) {q : SM} (hf : f_Mo_qDropsToBracket a0 M = some q) : jMet l jy_Mo_qDropsToBracket jb_Mo_qDropsToBracket 1 none 3 0 0 G [.ref a0] jN0 (jce G M) none jN0 (jce G q) :=
  j_met jo_Mo_qDropsToBracket (by decide) (Nat.le_of_ble_eq_true rfl) (fun p e s m args below meth c C hr hm => K_Mo_qDropsToBracket C F (Nat.le_refl _) a0 hp0 M (fun t => t = q) (fun M' hX pc ls hd => by cases hX; exact w_vret C hr hd) _ hf rfl)
def f_Mo_qIsOn (a0 : Nat) (a1 : Int32) (M : SM) : Option Int32 := if 0 < (M.1 a0 91) then ((aI M (jpf a0 90) ((M.1 a0 91) - 1)).bind fun v2 => if v2 = a1 then (some 1) else (some 0)) else (some 0)
section
variable {p : Program} {l : Launch} {e : Env} {R : Room} {s : State} {m : MethodId} {args : Array Value} {below : List Frame} {meth : Method} {c : Code} {G : JG} {D : Nat} {Q : State → Prop}
set_option maxHeartbeats 4000000 in
set_option maxRecDepth 20000 in
theorem K_Mo_qIsOn (C : jCx p R s m args meth c G jb_Mo_qIsOn 2 D "SluicePitModel") (F : jF G = false) (hD : 1 ≤ D) (a0 : Nat) (a1 : Int32) (hp0 : jkd a0 12) (M : SM) (X : Int32 → Prop) (hR : ∀ v, X v → ∀ (pc : Nat) (ls : List (Option Value)), decode jb_Mo_qIsOn pc = .ok (.ireturn, 1) → narrow FieldType.boolean (.int v) = .int v → Wk p l e R s m args below meth c G 2 Q 0 0 jN0 (jce G M) pc ls [.int v]) : J X (f_Mo_qIsOn a0 a1 M) (Wk p l e R s m args below meth c G 2 Q 0 0 jN0 (jce G M) 0 [some (.ref a0), some (.int a1)] []) := by
  unfold f_Mo_qIsOn
  refine J_mono (w_aload_n C (jd jdt_Mo_qIsOn 0 rfl) rfl) ?_
  refine J_mono (jg_Mo_524 C hp0 (jd jdt_Mo_qIsOn 1 rfl)) ?_
  refine J_br (w_if_le (y := 0) C (jd jdt_Mo_qIsOn 2 rfl) rfl) (fun h1 => J_pos h1 ?_) (fun h1 => J_neg h1 ?_)
  · refine J_mono (w_aload_n C (jd jdt_Mo_qIsOn 3 rfl) rfl) ?_
    refine J_mono (jg_Mo_206 C hp0 (jd jdt_Mo_qIsOn 4 rfl)) ?_
    refine J_mono (w_aload_n C (jd jdt_Mo_qIsOn 5 rfl) rfl) ?_
    refine J_mono (jg_Mo_524 C hp0 (jd jdt_Mo_qIsOn 6 rfl)) ?_
    refine J_mono (w_iconst_1 C (jd jdt_Mo_qIsOn 7 rfl)) ?_
    refine J_mono (w_isub C (jd jdt_Mo_qIsOn 8 rfl)) ?_
    refine J_bind (fun v2 hv2 => ?_)
    refine J_mono (w_iald C (jkf_12_90 hp0) hv2 (jd jdt_Mo_qIsOn 9 rfl)) ?_
    refine J_mono (w_iload_n C (jd jdt_Mo_qIsOn 10 rfl) rfl) ?_
    refine J_br (w_icmp_ne C (jd jdt_Mo_qIsOn 11 rfl) rfl) (fun h3 => J_pos h3 ?_) (fun h3 => J_neg h3 ?_)
    · refine J_mono (w_iconst_1 C (jd jdt_Mo_qIsOn 12 rfl)) ?_
      refine J_mono (w_goto C (jd jdt_Mo_qIsOn 13 rfl) rfl) ?_
      exact J_some (fun hx => hR 1 hx _ _ (jd jdt_Mo_qIsOn 15 rfl) rfl)
    · refine J_mono (w_iconst_0 C (jd jdt_Mo_qIsOn 14 rfl)) ?_
      exact J_some (fun hx => hR 0 hx _ _ (jd jdt_Mo_qIsOn 15 rfl) rfl)
  · refine J_mono (w_iconst_0 C (jd jdt_Mo_qIsOn 14 rfl)) ?_
    exact J_some (fun hx => hR 0 hx _ _ (jd jdt_Mo_qIsOn 15 rfl) rfl)
end
theorem C_Mo_qIsOn (l : Launch) (G : JG) (F : jF G = false) (a0 : Nat) (a1 : Int32) (hp0 : jkd a0 12) (M : SM) {q : Int32} (hf : f_Mo_qIsOn a0 a1 M = some q) : jMet l jy_Mo_qIsOn jb_Mo_qIsOn 2 (some FieldType.boolean) 1 0 0 G [.ref a0, .int a1] jN0 (jce G M) (some (.int q)) jN0 (jce G M) :=
  j_met jo_Mo_qIsOn (by decide) (Nat.le_of_ble_eq_true rfl) (fun p e s m args below meth c C hr hm => K_Mo_qIsOn C F (Nat.le_refl _) a0 a1 hp0 M (fun t => t = q) (fun v hX pc ls hd hn => by cases hX; exact w_iret C hr hn hd) _ hf rfl)
def lp_Mo_qGoesOn_0 (y0 : Nat) : Nat → SM → Option (SM)
  | 0, _ => none
  | n + 1, M => if (M.1 y0 5) = 0 then ((f_Mo_look y0 M).bind fun q2 => if q2.1 = 41 then ((f_Mo_qBracket y0 q2.2).bind fun q4 => if q4 = 20 then ((f_Mo_qDropsToBracket y0 (sI q2.2 y0 2 ((q2.2.1 y0 2) + 1))).bind fun q6 => (aI (sI (sI q6 y0 91 ((q6.1 y0 91) - 1)) y0 92 (((sI q6 y0 91 ((q6.1 y0 91) - 1)).1 y0 92) - 1)) (jpf y0 90) ((sI (sI q6 y0 91 ((q6.1 y0 91) - 1)) y0 92 (((sI q6 y0 91 ((q6.1 y0 91) - 1)).1 y0 92) - 1)).1 y0 91)).bind fun v7 => (if v7 = 20 then (some (sI (sI q6 y0 91 ((q6.1 y0 91) - 1)) y0 92 (((sI q6 y0 91 ((q6.1 y0 91) - 1)).1 y0 92) - 1))) else ((aI (sI (sI q6 y0 91 ((q6.1 y0 91) - 1)) y0 92 (((sI q6 y0 91 ((q6.1 y0 91) - 1)).1 y0 92) - 1)) (jpf y0 90) ((sI (sI q6 y0 91 ((q6.1 y0 91) - 1)) y0 92 (((sI q6 y0 91 ((q6.1 y0 91) - 1)).1 y0 92) - 1)).1 y0 91)).bind fun v10 => (if v10 = 23 then (some 5) else (some 6) : Option (Int32)).bind fun q11 => (f_Mo_qCode y0 q11 (sI (sI q6 y0 91 ((q6.1 y0 91) - 1)) y0 92 (((sI q6 y0 91 ((q6.1 y0 91) - 1)).1 y0 92) - 1))).bind fun q13 => some q13) : Option (SM)).bind fun q8 => (f_Mo_qEndsPart y0 q8).bind fun q14 => lp_Mo_qGoesOn_0 y0 n q14) else ((f_Mo_qBracket y0 q2.2).bind fun q15 => if q15 = 23 then ((f_Mo_qDropsToBracket y0 (sI q2.2 y0 2 ((q2.2.1 y0 2) + 1))).bind fun q17 => (aI (sI (sI q17 y0 91 ((q17.1 y0 91) - 1)) y0 92 (((sI q17 y0 91 ((q17.1 y0 91) - 1)).1 y0 92) - 1)) (jpf y0 90) ((sI (sI q17 y0 91 ((q17.1 y0 91) - 1)) y0 92 (((sI q17 y0 91 ((q17.1 y0 91) - 1)).1 y0 92) - 1)).1 y0 91)).bind fun v18 => (if v18 = 20 then (some (sI (sI q17 y0 91 ((q17.1 y0 91) - 1)) y0 92 (((sI q17 y0 91 ((q17.1 y0 91) - 1)).1 y0 92) - 1))) else ((aI (sI (sI q17 y0 91 ((q17.1 y0 91) - 1)) y0 92 (((sI q17 y0 91 ((q17.1 y0 91) - 1)).1 y0 92) - 1)) (jpf y0 90) ((sI (sI q17 y0 91 ((q17.1 y0 91) - 1)) y0 92 (((sI q17 y0 91 ((q17.1 y0 91) - 1)).1 y0 92) - 1)).1 y0 91)).bind fun v21 => (if v21 = 23 then (some 5) else (some 6) : Option (Int32)).bind fun q22 => (f_Mo_qCode y0 q22 (sI (sI q17 y0 91 ((q17.1 y0 91) - 1)) y0 92 (((sI q17 y0 91 ((q17.1 y0 91) - 1)).1 y0 92) - 1))).bind fun q24 => some q24) : Option (SM)).bind fun q19 => (f_Mo_qEndsPart y0 q19).bind fun q25 => lp_Mo_qGoesOn_0 y0 n q25) else ((f_Mo_qBracket y0 q2.2).bind fun q26 => if q26 = 24 then ((f_Mo_qDropsToBracket y0 (sI q2.2 y0 2 ((q2.2.1 y0 2) + 1))).bind fun q28 => (aI (sI (sI q28 y0 91 ((q28.1 y0 91) - 1)) y0 92 (((sI q28 y0 91 ((q28.1 y0 91) - 1)).1 y0 92) - 1)) (jpf y0 90) ((sI (sI q28 y0 91 ((q28.1 y0 91) - 1)) y0 92 (((sI q28 y0 91 ((q28.1 y0 91) - 1)).1 y0 92) - 1)).1 y0 91)).bind fun v29 => (if v29 = 20 then (some (sI (sI q28 y0 91 ((q28.1 y0 91) - 1)) y0 92 (((sI q28 y0 91 ((q28.1 y0 91) - 1)).1 y0 92) - 1))) else ((aI (sI (sI q28 y0 91 ((q28.1 y0 91) - 1)) y0 92 (((sI q28 y0 91 ((q28.1 y0 91) - 1)).1 y0 92) - 1)) (jpf y0 90) ((sI (sI q28 y0 91 ((q28.1 y0 91) - 1)) y0 92 (((sI q28 y0 91 ((q28.1 y0 91) - 1)).1 y0 92) - 1)).1 y0 91)).bind fun v32 => (if v32 = 23 then (some 5) else (some 6) : Option (Int32)).bind fun q33 => (f_Mo_qCode y0 q33 (sI (sI q28 y0 91 ((q28.1 y0 91) - 1)) y0 92 (((sI q28 y0 91 ((q28.1 y0 91) - 1)).1 y0 92) - 1))).bind fun q35 => some q35) : Option (SM)).bind fun q30 => (f_Mo_qEndsPart y0 q30).bind fun q36 => lp_Mo_qGoesOn_0 y0 n q36) else (some q2.2)))) else (some q2.2)) else (some M)
def lp_Mo_qGoesOn_247 (y0 : Nat) : Nat → SM → Option (SM)
  | 0, _ => none
  | n + 1, M => (f_Mo_qIsOn y0 3 M).bind fun q67 => if q67 = 0 then ((f_Mo_qIsOn y0 4 M).bind fun q69 => if q69 = 0 then ((f_Mo_qIsOn y0 1 M).bind fun q71 => if q71 = 0 then ((f_Mo_qIsOn y0 2 M).bind fun q73 => if q73 = 0 then (some M) else ((f_Mo_qDrops y0 M).bind fun q75 => lp_Mo_qGoesOn_247 y0 n q75)) else ((f_Mo_qDrops y0 M).bind fun q76 => lp_Mo_qGoesOn_247 y0 n q76)) else ((f_Mo_qDrops y0 M).bind fun q77 => lp_Mo_qGoesOn_247 y0 n q77)) else ((f_Mo_qDrops y0 M).bind fun q78 => lp_Mo_qGoesOn_247 y0 n q78)
def lp_Mo_qGoesOn_162 (y0 : Nat) : Nat → SM → Option (SM)
  | 0, _ => none
  | n + 1, M => (f_Mo_qIsOn y0 3 M).bind fun q101 => if q101 = 0 then ((f_Mo_qIsOn y0 4 M).bind fun q103 => if q103 = 0 then (some M) else ((f_Mo_qDrops y0 M).bind fun q105 => lp_Mo_qGoesOn_162 y0 n q105)) else ((f_Mo_qDrops y0 M).bind fun q106 => lp_Mo_qGoesOn_162 y0 n q106)
def f_Mo_qGoesOn (a0 : Nat) (M : SM) : Option (Int32 × SM) := (lp_Mo_qGoesOn_0 a0 jfuel M).bind fun q37 => (f_Mo_takesSign a0 42 q37).bind fun q38 => if q38.1 = 0 then ((f_Mo_takesSign a0 47 q38.2).bind fun q40 => if q40.1 = 0 then ((f_Mo_takesSign a0 43 q40.2).bind fun q42 => if q42.1 = 0 then ((f_Mo_takesSign a0 45 q42.2).bind fun q44 => if q44.1 = 0 then ((f_Mo_qBracket a0 q44.2).bind fun q46 => if q46 = 21 then ((f_Mo_asksSign a0 44 q44.2).bind fun q48 => if (q48.1 a0 5) = 0 then ((f_Mo_qDropsToBracket a0 q48).bind fun q50 => (aI q50 (jpf a0 90) ((q50.1 a0 91) - 1)).bind fun v51 => (aS q50 (jpf a0 90) ((q50.1 a0 91) - 1) (v51 + 2)).bind fun M52 => some (1, M52)) else (some (0, q48))) else ((f_Mo_qBracket a0 q44.2).bind fun q53 => if q53 = 22 then ((f_Mo_asksSign a0 44 q44.2).bind fun q55 => if (q55.1 a0 5) = 0 then ((f_Mo_qDropsToBracket a0 q55).bind fun q57 => (aI q57 (jpf a0 90) ((q57.1 a0 91) - 1)).bind fun v58 => (aS q57 (jpf a0 90) ((q57.1 a0 91) - 1) (v58 + 2)).bind fun M59 => some (1, M59)) else (some (0, q55))) else ((f_Mo_qBracket a0 q44.2).bind fun q60 => if q60 = (-1) then (some (0, q44.2)) else (if (q44.2.1 a0 5) = 0 then ((f_Mo_fail a0 1 (q44.2.1 a0 2) q44.2).bind fun q63 => some (0, q63)) else (some (0, q44.2)))))) else ((aI q44.2 (jpf a0 0) ((q44.2.1 a0 2) - 1)).bind fun v64 => (if v64 = 43 then (some 1) else (some 2) : Option (Int32)).bind fun q65 => (lp_Mo_qGoesOn_247 a0 jfuel q44.2).bind fun q79 => (aS q79 (jpf a0 90) (q79.1 a0 91) q65).bind fun M80 => some (1, sI M80 a0 91 ((M80.1 a0 91) + 1)))) else ((aI q42.2 (jpf a0 0) ((q42.2.1 a0 2) - 1)).bind fun v81 => (if v81 = 43 then (some 1) else (some 2) : Option (Int32)).bind fun q82 => (lp_Mo_qGoesOn_247 a0 jfuel q42.2).bind fun q96 => (aS q96 (jpf a0 90) (q96.1 a0 91) q82).bind fun M97 => some (1, sI M97 a0 91 ((M97.1 a0 91) + 1)))) else ((aI q40.2 (jpf a0 0) ((q40.2.1 a0 2) - 1)).bind fun v98 => (if v98 = 42 then (some 3) else (some 4) : Option (Int32)).bind fun q99 => (lp_Mo_qGoesOn_162 a0 jfuel q40.2).bind fun q107 => (aS q107 (jpf a0 90) (q107.1 a0 91) q99).bind fun M108 => some (1, sI M108 a0 91 ((M108.1 a0 91) + 1)))) else ((aI q38.2 (jpf a0 0) ((q38.2.1 a0 2) - 1)).bind fun v109 => (if v109 = 42 then (some 3) else (some 4) : Option (Int32)).bind fun q110 => (lp_Mo_qGoesOn_162 a0 jfuel q38.2).bind fun q118 => (aS q118 (jpf a0 90) (q118.1 a0 91) q110).bind fun M119 => some (1, sI M119 a0 91 ((M119.1 a0 91) + 1)))
section
variable {p : Program} {l : Launch} {e : Env} {R : Room} {s : State} {m : MethodId} {args : Array Value} {below : List Frame} {meth : Method} {c : Code} {G : JG} {D : Nat} {Q : State → Prop}
set_option maxHeartbeats 4000000 in
set_option maxRecDepth 20000 in
theorem K_Mo_qGoesOn (C : jCx p R s m args meth c G jb_Mo_qGoesOn 2 D "SluicePitModel") (F : jF G = false) (hD : 4 ≤ D) (a0 : Nat) (hp0 : jkd a0 12) (M : SM) (X : (Int32 × SM) → Prop) (hR : ∀ v M', X (v, M') → ∀ (pc : Nat) (ls : List (Option Value)), decode jb_Mo_qGoesOn pc = .ok (.ireturn, 1) → narrow FieldType.boolean (.int v) = .int v → Wk p l e R s m args below meth c G 2 Q 0 0 jN0 (jce G M') pc ls [.int v]) : J X (f_Mo_qGoesOn a0 M) (Wk p l e R s m args below meth c G 2 Q 0 0 jN0 (jce G M) 0 [some (.ref a0), none] []) := by
  unfold f_Mo_qGoesOn
  have L0 : ∀ (y0 : Nat) (hy0 : jkd y0 12) (n : Nat)  (M : SM), J (fun (q37 : SM) => Wk p l e R s m args below meth c G 2 Q 0 0 jN0 (jce G q37) 122 [some (.ref y0), none] []) (lp_Mo_qGoesOn_0 y0 n M) (Wk p l e R s m args below meth c G 2 Q 0 0 jN0 (jce G M) 0 [some (.ref y0), none] []) := by
    intro y0 hy0 n
    induction n with
    | zero => intro  M; exact J_none
    | succ n ih =>
      intro  M
      unfold lp_Mo_qGoesOn_0
      refine J_mono (w_aload_n C (jd jdt_Mo_qGoesOn 0 rfl) rfl) ?_
      refine J_mono (jg_Mo_218 C hy0 (jd jdt_Mo_qGoesOn 1 rfl)) ?_
      refine J_br (w_if_ne (y := 0) C (jd jdt_Mo_qGoesOn 2 rfl) rfl) (fun h1 => J_pos h1 ?_) (fun h1 => J_neg h1 ?_)
      · refine J_mono (w_aload_n C (jd jdt_Mo_qGoesOn 3 rfl) rfl) ?_
        refine J_bind (fun q2 hq2 => ?_)
        refine J_mono (jc_Mo_230 C hy0 (C_Mo_look l G F y0 hy0 M hq2) rfl (Nat.le_trans (Nat.le_of_ble_eq_true rfl : 1 + 1 ≤ 4) hD) (jd jdt_Mo_qGoesOn 4 rfl)) ?_
        refine J_mono (w_bipush_41 C (jd jdt_Mo_qGoesOn 5 rfl)) ?_
        refine J_br (w_icmp_ne C (jd jdt_Mo_qGoesOn 6 rfl) rfl) (fun h3 => J_pos h3 ?_) (fun h3 => J_neg h3 ?_)
        · refine J_mono (w_aload_n C (jd jdt_Mo_qGoesOn 7 rfl) rfl) ?_
          refine J_bind (fun q4 hq4 => ?_)
          refine J_mono (jc_Mo_554 C hy0 (C_Mo_qBracket l G F y0 hy0 q2.2 hq4) rfl (Nat.le_trans (Nat.le_of_ble_eq_true rfl : 2 + 1 ≤ 4) hD) (jd jdt_Mo_qGoesOn 8 rfl)) ?_
          refine J_mono (w_bipush_20 C (jd jdt_Mo_qGoesOn 9 rfl)) ?_
          refine J_br (w_icmp_eq C (jd jdt_Mo_qGoesOn 10 rfl) rfl) (fun h5 => J_pos h5 ?_) (fun h5 => J_neg h5 ?_)
          · refine J_mono (w_aload_n C (jd jdt_Mo_qGoesOn 19 rfl) rfl) ?_
            refine J_mono (w_dup_r C (jd jdt_Mo_qGoesOn 20 rfl)) ?_
            refine J_mono (jg_Mo_224 C hy0 (jd jdt_Mo_qGoesOn 21 rfl)) ?_
            refine J_mono (w_iconst_1 C (jd jdt_Mo_qGoesOn 22 rfl)) ?_
            refine J_mono (w_iadd C (jd jdt_Mo_qGoesOn 23 rfl)) ?_
            refine J_mono (jp_Mo_224 C F hy0 (jd jdt_Mo_qGoesOn 24 rfl)) ?_
            refine J_mono (w_aload_n C (jd jdt_Mo_qGoesOn 25 rfl) rfl) ?_
            refine J_bind (fun q6 hq6 => ?_)
            refine J_mono (jc_Mo_557 C hy0 (C_Mo_qDropsToBracket l G F y0 hy0 (sI q2.2 y0 2 ((q2.2.1 y0 2) + 1)) hq6) rfl (Nat.le_trans (Nat.le_of_ble_eq_true rfl : 3 + 1 ≤ 4) hD) (jd jdt_Mo_qGoesOn 26 rfl)) ?_
            refine J_mono (w_aload_n C (jd jdt_Mo_qGoesOn 27 rfl) rfl) ?_
            refine J_mono (w_dup_r C (jd jdt_Mo_qGoesOn 28 rfl)) ?_
            refine J_mono (jg_Mo_524 C hy0 (jd jdt_Mo_qGoesOn 29 rfl)) ?_
            refine J_mono (w_iconst_1 C (jd jdt_Mo_qGoesOn 30 rfl)) ?_
            refine J_mono (w_isub C (jd jdt_Mo_qGoesOn 31 rfl)) ?_
            refine J_mono (jp_Mo_524 C F hy0 (jd jdt_Mo_qGoesOn 32 rfl)) ?_
            refine J_mono (w_aload_n C (jd jdt_Mo_qGoesOn 33 rfl) rfl) ?_
            refine J_mono (w_dup_r C (jd jdt_Mo_qGoesOn 34 rfl)) ?_
            refine J_mono (jg_Mo_521 C hy0 (jd jdt_Mo_qGoesOn 35 rfl)) ?_
            refine J_mono (w_iconst_1 C (jd jdt_Mo_qGoesOn 36 rfl)) ?_
            refine J_mono (w_isub C (jd jdt_Mo_qGoesOn 37 rfl)) ?_
            refine J_mono (jp_Mo_521 C F hy0 (jd jdt_Mo_qGoesOn 38 rfl)) ?_
            refine J_mono (w_aload_n C (jd jdt_Mo_qGoesOn 39 rfl) rfl) ?_
            refine J_mono (jg_Mo_206 C hy0 (jd jdt_Mo_qGoesOn 40 rfl)) ?_
            refine J_mono (w_aload_n C (jd jdt_Mo_qGoesOn 41 rfl) rfl) ?_
            refine J_mono (jg_Mo_524 C hy0 (jd jdt_Mo_qGoesOn 42 rfl)) ?_
            refine J_bind (fun v7 hv7 => ?_)
            refine J_mono (w_iald C (jkf_12_90 hy0) hv7 (jd jdt_Mo_qGoesOn 43 rfl)) ?_
            refine J_mono (w_bipush_20 C (jd jdt_Mo_qGoesOn 44 rfl)) ?_
            refine J_seq (fun (q8 : SM) => Wk p l e R s m args below meth c G 2 Q 0 0 jN0 (jce G q8) 115 [some (.ref y0), none] []) ?_ (fun q8 hq8 => ?_)
            · refine J_br (w_icmp_eq C (jd jdt_Mo_qGoesOn 45 rfl) rfl) (fun h9 => J_pos h9 ?_) (fun h9 => J_neg h9 ?_)
              · exact J_some (fun hx => Wk_sb hx ⟨rfl, trivial⟩)
              · refine J_mono (w_aload_n C (jd jdt_Mo_qGoesOn 46 rfl) rfl) ?_
                refine J_mono (w_aload_n C (jd jdt_Mo_qGoesOn 47 rfl) rfl) ?_
                refine J_mono (jg_Mo_206 C hy0 (jd jdt_Mo_qGoesOn 48 rfl)) ?_
                refine J_mono (w_aload_n C (jd jdt_Mo_qGoesOn 49 rfl) rfl) ?_
                refine J_mono (jg_Mo_524 C hy0 (jd jdt_Mo_qGoesOn 50 rfl)) ?_
                refine J_bind (fun v10 hv10 => ?_)
                refine J_mono (w_iald C (jkf_12_90 hy0) hv10 (jd jdt_Mo_qGoesOn 51 rfl)) ?_
                refine J_mono (w_bipush_23 C (jd jdt_Mo_qGoesOn 52 rfl)) ?_
                refine J_seq (fun (q11 : Int32) => Wk p l e R s m args below meth c G 2 Q 0 0 jN0 (jce G (sI (sI q6 y0 91 ((q6.1 y0 91) - 1)) y0 92 (((sI q6 y0 91 ((q6.1 y0 91) - 1)).1 y0 92) - 1))) 112 [some (.ref y0), none] [.int q11, .ref y0]) ?_ (fun q11 hq11 => ?_)
                · refine J_br (w_icmp_ne C (jd jdt_Mo_qGoesOn 53 rfl) rfl) (fun h12 => J_pos h12 ?_) (fun h12 => J_neg h12 ?_)
                  · refine J_mono (w_iconst_5 C (jd jdt_Mo_qGoesOn 54 rfl)) ?_
                    refine J_mono (w_goto C (jd jdt_Mo_qGoesOn 55 rfl) rfl) ?_
                    exact J_some (fun hx => Wk_sb hx ⟨rfl, trivial⟩)
                  · refine J_mono (w_bipush_6 C (jd jdt_Mo_qGoesOn 56 rfl)) ?_
                    exact J_some (fun hx => Wk_sb hx ⟨rfl, trivial⟩)
                · refine J_bind (fun q13 hq13 => ?_)
                  refine J_mono (jc_Mo_527 C hy0 (C_Mo_qCode l G F y0 q11 hy0 (sI (sI q6 y0 91 ((q6.1 y0 91) - 1)) y0 92 (((sI q6 y0 91 ((q6.1 y0 91) - 1)).1 y0 92) - 1)) hq13) rfl (Nat.le_trans (Nat.le_of_ble_eq_true rfl : 1 + 1 ≤ 4) hD) (jd jdt_Mo_qGoesOn 57 rfl)) ?_
                  exact J_some (fun hx => Wk_sb hx ⟨rfl, trivial⟩)
            · refine J_mono (w_aload_n C (jd jdt_Mo_qGoesOn 58 rfl) rfl) ?_
              refine J_bind (fun q14 hq14 => ?_)
              refine J_mono (jc_Mo_551 C hy0 (C_Mo_qEndsPart l G F y0 hy0 q8 hq14) rfl (Nat.le_trans (Nat.le_of_ble_eq_true rfl : 3 + 1 ≤ 4) hD) (jd jdt_Mo_qGoesOn 59 rfl)) ?_
              refine J_mono (w_goto C (jd jdt_Mo_qGoesOn 60 rfl) rfl) ?_
              exact J_sub (ih q14) ⟨rfl, trivial⟩
          · refine J_mono (w_aload_n C (jd jdt_Mo_qGoesOn 11 rfl) rfl) ?_
            refine J_bind (fun q15 hq15 => ?_)
            refine J_mono (jc_Mo_554 C hy0 (C_Mo_qBracket l G F y0 hy0 q2.2 hq15) rfl (Nat.le_trans (Nat.le_of_ble_eq_true rfl : 2 + 1 ≤ 4) hD) (jd jdt_Mo_qGoesOn 12 rfl)) ?_
            refine J_mono (w_bipush_23 C (jd jdt_Mo_qGoesOn 13 rfl)) ?_
            refine J_br (w_icmp_eq C (jd jdt_Mo_qGoesOn 14 rfl) rfl) (fun h16 => J_pos h16 ?_) (fun h16 => J_neg h16 ?_)
            · refine J_mono (w_aload_n C (jd jdt_Mo_qGoesOn 19 rfl) rfl) ?_
              refine J_mono (w_dup_r C (jd jdt_Mo_qGoesOn 20 rfl)) ?_
              refine J_mono (jg_Mo_224 C hy0 (jd jdt_Mo_qGoesOn 21 rfl)) ?_
              refine J_mono (w_iconst_1 C (jd jdt_Mo_qGoesOn 22 rfl)) ?_
              refine J_mono (w_iadd C (jd jdt_Mo_qGoesOn 23 rfl)) ?_
              refine J_mono (jp_Mo_224 C F hy0 (jd jdt_Mo_qGoesOn 24 rfl)) ?_
              refine J_mono (w_aload_n C (jd jdt_Mo_qGoesOn 25 rfl) rfl) ?_
              refine J_bind (fun q17 hq17 => ?_)
              refine J_mono (jc_Mo_557 C hy0 (C_Mo_qDropsToBracket l G F y0 hy0 (sI q2.2 y0 2 ((q2.2.1 y0 2) + 1)) hq17) rfl (Nat.le_trans (Nat.le_of_ble_eq_true rfl : 3 + 1 ≤ 4) hD) (jd jdt_Mo_qGoesOn 26 rfl)) ?_
              refine J_mono (w_aload_n C (jd jdt_Mo_qGoesOn 27 rfl) rfl) ?_
              refine J_mono (w_dup_r C (jd jdt_Mo_qGoesOn 28 rfl)) ?_
              refine J_mono (jg_Mo_524 C hy0 (jd jdt_Mo_qGoesOn 29 rfl)) ?_
              refine J_mono (w_iconst_1 C (jd jdt_Mo_qGoesOn 30 rfl)) ?_
              refine J_mono (w_isub C (jd jdt_Mo_qGoesOn 31 rfl)) ?_
              refine J_mono (jp_Mo_524 C F hy0 (jd jdt_Mo_qGoesOn 32 rfl)) ?_
              refine J_mono (w_aload_n C (jd jdt_Mo_qGoesOn 33 rfl) rfl) ?_
              refine J_mono (w_dup_r C (jd jdt_Mo_qGoesOn 34 rfl)) ?_
              refine J_mono (jg_Mo_521 C hy0 (jd jdt_Mo_qGoesOn 35 rfl)) ?_
              refine J_mono (w_iconst_1 C (jd jdt_Mo_qGoesOn 36 rfl)) ?_
              refine J_mono (w_isub C (jd jdt_Mo_qGoesOn 37 rfl)) ?_
              refine J_mono (jp_Mo_521 C F hy0 (jd jdt_Mo_qGoesOn 38 rfl)) ?_
              refine J_mono (w_aload_n C (jd jdt_Mo_qGoesOn 39 rfl) rfl) ?_
              refine J_mono (jg_Mo_206 C hy0 (jd jdt_Mo_qGoesOn 40 rfl)) ?_
              refine J_mono (w_aload_n C (jd jdt_Mo_qGoesOn 41 rfl) rfl) ?_
              refine J_mono (jg_Mo_524 C hy0 (jd jdt_Mo_qGoesOn 42 rfl)) ?_
              refine J_bind (fun v18 hv18 => ?_)
              refine J_mono (w_iald C (jkf_12_90 hy0) hv18 (jd jdt_Mo_qGoesOn 43 rfl)) ?_
              refine J_mono (w_bipush_20 C (jd jdt_Mo_qGoesOn 44 rfl)) ?_
              refine J_seq (fun (q19 : SM) => Wk p l e R s m args below meth c G 2 Q 0 0 jN0 (jce G q19) 115 [some (.ref y0), none] []) ?_ (fun q19 hq19 => ?_)
              · refine J_br (w_icmp_eq C (jd jdt_Mo_qGoesOn 45 rfl) rfl) (fun h20 => J_pos h20 ?_) (fun h20 => J_neg h20 ?_)
                · exact J_some (fun hx => Wk_sb hx ⟨rfl, trivial⟩)
                · refine J_mono (w_aload_n C (jd jdt_Mo_qGoesOn 46 rfl) rfl) ?_
                  refine J_mono (w_aload_n C (jd jdt_Mo_qGoesOn 47 rfl) rfl) ?_
                  refine J_mono (jg_Mo_206 C hy0 (jd jdt_Mo_qGoesOn 48 rfl)) ?_
                  refine J_mono (w_aload_n C (jd jdt_Mo_qGoesOn 49 rfl) rfl) ?_
                  refine J_mono (jg_Mo_524 C hy0 (jd jdt_Mo_qGoesOn 50 rfl)) ?_
                  refine J_bind (fun v21 hv21 => ?_)
                  refine J_mono (w_iald C (jkf_12_90 hy0) hv21 (jd jdt_Mo_qGoesOn 51 rfl)) ?_
                  refine J_mono (w_bipush_23 C (jd jdt_Mo_qGoesOn 52 rfl)) ?_
                  refine J_seq (fun (q22 : Int32) => Wk p l e R s m args below meth c G 2 Q 0 0 jN0 (jce G (sI (sI q17 y0 91 ((q17.1 y0 91) - 1)) y0 92 (((sI q17 y0 91 ((q17.1 y0 91) - 1)).1 y0 92) - 1))) 112 [some (.ref y0), none] [.int q22, .ref y0]) ?_ (fun q22 hq22 => ?_)
                  · refine J_br (w_icmp_ne C (jd jdt_Mo_qGoesOn 53 rfl) rfl) (fun h23 => J_pos h23 ?_) (fun h23 => J_neg h23 ?_)
                    · refine J_mono (w_iconst_5 C (jd jdt_Mo_qGoesOn 54 rfl)) ?_
                      refine J_mono (w_goto C (jd jdt_Mo_qGoesOn 55 rfl) rfl) ?_
                      exact J_some (fun hx => Wk_sb hx ⟨rfl, trivial⟩)
                    · refine J_mono (w_bipush_6 C (jd jdt_Mo_qGoesOn 56 rfl)) ?_
                      exact J_some (fun hx => Wk_sb hx ⟨rfl, trivial⟩)
                  · refine J_bind (fun q24 hq24 => ?_)
                    refine J_mono (jc_Mo_527 C hy0 (C_Mo_qCode l G F y0 q22 hy0 (sI (sI q17 y0 91 ((q17.1 y0 91) - 1)) y0 92 (((sI q17 y0 91 ((q17.1 y0 91) - 1)).1 y0 92) - 1)) hq24) rfl (Nat.le_trans (Nat.le_of_ble_eq_true rfl : 1 + 1 ≤ 4) hD) (jd jdt_Mo_qGoesOn 57 rfl)) ?_
                    exact J_some (fun hx => Wk_sb hx ⟨rfl, trivial⟩)
              · refine J_mono (w_aload_n C (jd jdt_Mo_qGoesOn 58 rfl) rfl) ?_
                refine J_bind (fun q25 hq25 => ?_)
                refine J_mono (jc_Mo_551 C hy0 (C_Mo_qEndsPart l G F y0 hy0 q19 hq25) rfl (Nat.le_trans (Nat.le_of_ble_eq_true rfl : 3 + 1 ≤ 4) hD) (jd jdt_Mo_qGoesOn 59 rfl)) ?_
                refine J_mono (w_goto C (jd jdt_Mo_qGoesOn 60 rfl) rfl) ?_
                exact J_sub (ih q25) ⟨rfl, trivial⟩
            · refine J_mono (w_aload_n C (jd jdt_Mo_qGoesOn 15 rfl) rfl) ?_
              refine J_bind (fun q26 hq26 => ?_)
              refine J_mono (jc_Mo_554 C hy0 (C_Mo_qBracket l G F y0 hy0 q2.2 hq26) rfl (Nat.le_trans (Nat.le_of_ble_eq_true rfl : 2 + 1 ≤ 4) hD) (jd jdt_Mo_qGoesOn 16 rfl)) ?_
              refine J_mono (w_bipush_24 C (jd jdt_Mo_qGoesOn 17 rfl)) ?_
              refine J_br (w_icmp_ne C (jd jdt_Mo_qGoesOn 18 rfl) rfl) (fun h27 => J_pos h27 ?_) (fun h27 => J_neg h27 ?_)
              · refine J_mono (w_aload_n C (jd jdt_Mo_qGoesOn 19 rfl) rfl) ?_
                refine J_mono (w_dup_r C (jd jdt_Mo_qGoesOn 20 rfl)) ?_
                refine J_mono (jg_Mo_224 C hy0 (jd jdt_Mo_qGoesOn 21 rfl)) ?_
                refine J_mono (w_iconst_1 C (jd jdt_Mo_qGoesOn 22 rfl)) ?_
                refine J_mono (w_iadd C (jd jdt_Mo_qGoesOn 23 rfl)) ?_
                refine J_mono (jp_Mo_224 C F hy0 (jd jdt_Mo_qGoesOn 24 rfl)) ?_
                refine J_mono (w_aload_n C (jd jdt_Mo_qGoesOn 25 rfl) rfl) ?_
                refine J_bind (fun q28 hq28 => ?_)
                refine J_mono (jc_Mo_557 C hy0 (C_Mo_qDropsToBracket l G F y0 hy0 (sI q2.2 y0 2 ((q2.2.1 y0 2) + 1)) hq28) rfl (Nat.le_trans (Nat.le_of_ble_eq_true rfl : 3 + 1 ≤ 4) hD) (jd jdt_Mo_qGoesOn 26 rfl)) ?_
                refine J_mono (w_aload_n C (jd jdt_Mo_qGoesOn 27 rfl) rfl) ?_
                refine J_mono (w_dup_r C (jd jdt_Mo_qGoesOn 28 rfl)) ?_
                refine J_mono (jg_Mo_524 C hy0 (jd jdt_Mo_qGoesOn 29 rfl)) ?_
                refine J_mono (w_iconst_1 C (jd jdt_Mo_qGoesOn 30 rfl)) ?_
                refine J_mono (w_isub C (jd jdt_Mo_qGoesOn 31 rfl)) ?_
                refine J_mono (jp_Mo_524 C F hy0 (jd jdt_Mo_qGoesOn 32 rfl)) ?_
                refine J_mono (w_aload_n C (jd jdt_Mo_qGoesOn 33 rfl) rfl) ?_
                refine J_mono (w_dup_r C (jd jdt_Mo_qGoesOn 34 rfl)) ?_
                refine J_mono (jg_Mo_521 C hy0 (jd jdt_Mo_qGoesOn 35 rfl)) ?_
                refine J_mono (w_iconst_1 C (jd jdt_Mo_qGoesOn 36 rfl)) ?_
                refine J_mono (w_isub C (jd jdt_Mo_qGoesOn 37 rfl)) ?_
                refine J_mono (jp_Mo_521 C F hy0 (jd jdt_Mo_qGoesOn 38 rfl)) ?_
                refine J_mono (w_aload_n C (jd jdt_Mo_qGoesOn 39 rfl) rfl) ?_
                refine J_mono (jg_Mo_206 C hy0 (jd jdt_Mo_qGoesOn 40 rfl)) ?_
                refine J_mono (w_aload_n C (jd jdt_Mo_qGoesOn 41 rfl) rfl) ?_
                refine J_mono (jg_Mo_524 C hy0 (jd jdt_Mo_qGoesOn 42 rfl)) ?_
                refine J_bind (fun v29 hv29 => ?_)
                refine J_mono (w_iald C (jkf_12_90 hy0) hv29 (jd jdt_Mo_qGoesOn 43 rfl)) ?_
                refine J_mono (w_bipush_20 C (jd jdt_Mo_qGoesOn 44 rfl)) ?_
                refine J_seq (fun (q30 : SM) => Wk p l e R s m args below meth c G 2 Q 0 0 jN0 (jce G q30) 115 [some (.ref y0), none] []) ?_ (fun q30 hq30 => ?_)
                · refine J_br (w_icmp_eq C (jd jdt_Mo_qGoesOn 45 rfl) rfl) (fun h31 => J_pos h31 ?_) (fun h31 => J_neg h31 ?_)
                  · exact J_some (fun hx => Wk_sb hx ⟨rfl, trivial⟩)
                  · refine J_mono (w_aload_n C (jd jdt_Mo_qGoesOn 46 rfl) rfl) ?_
                    refine J_mono (w_aload_n C (jd jdt_Mo_qGoesOn 47 rfl) rfl) ?_
                    refine J_mono (jg_Mo_206 C hy0 (jd jdt_Mo_qGoesOn 48 rfl)) ?_
                    refine J_mono (w_aload_n C (jd jdt_Mo_qGoesOn 49 rfl) rfl) ?_
                    refine J_mono (jg_Mo_524 C hy0 (jd jdt_Mo_qGoesOn 50 rfl)) ?_
                    refine J_bind (fun v32 hv32 => ?_)
                    refine J_mono (w_iald C (jkf_12_90 hy0) hv32 (jd jdt_Mo_qGoesOn 51 rfl)) ?_
                    refine J_mono (w_bipush_23 C (jd jdt_Mo_qGoesOn 52 rfl)) ?_
                    refine J_seq (fun (q33 : Int32) => Wk p l e R s m args below meth c G 2 Q 0 0 jN0 (jce G (sI (sI q28 y0 91 ((q28.1 y0 91) - 1)) y0 92 (((sI q28 y0 91 ((q28.1 y0 91) - 1)).1 y0 92) - 1))) 112 [some (.ref y0), none] [.int q33, .ref y0]) ?_ (fun q33 hq33 => ?_)
                    · refine J_br (w_icmp_ne C (jd jdt_Mo_qGoesOn 53 rfl) rfl) (fun h34 => J_pos h34 ?_) (fun h34 => J_neg h34 ?_)
                      · refine J_mono (w_iconst_5 C (jd jdt_Mo_qGoesOn 54 rfl)) ?_
                        refine J_mono (w_goto C (jd jdt_Mo_qGoesOn 55 rfl) rfl) ?_
                        exact J_some (fun hx => Wk_sb hx ⟨rfl, trivial⟩)
                      · refine J_mono (w_bipush_6 C (jd jdt_Mo_qGoesOn 56 rfl)) ?_
                        exact J_some (fun hx => Wk_sb hx ⟨rfl, trivial⟩)
                    · refine J_bind (fun q35 hq35 => ?_)
                      refine J_mono (jc_Mo_527 C hy0 (C_Mo_qCode l G F y0 q33 hy0 (sI (sI q28 y0 91 ((q28.1 y0 91) - 1)) y0 92 (((sI q28 y0 91 ((q28.1 y0 91) - 1)).1 y0 92) - 1)) hq35) rfl (Nat.le_trans (Nat.le_of_ble_eq_true rfl : 1 + 1 ≤ 4) hD) (jd jdt_Mo_qGoesOn 57 rfl)) ?_
                      exact J_some (fun hx => Wk_sb hx ⟨rfl, trivial⟩)
                · refine J_mono (w_aload_n C (jd jdt_Mo_qGoesOn 58 rfl) rfl) ?_
                  refine J_bind (fun q36 hq36 => ?_)
                  refine J_mono (jc_Mo_551 C hy0 (C_Mo_qEndsPart l G F y0 hy0 q30 hq36) rfl (Nat.le_trans (Nat.le_of_ble_eq_true rfl : 3 + 1 ≤ 4) hD) (jd jdt_Mo_qGoesOn 59 rfl)) ?_
                  refine J_mono (w_goto C (jd jdt_Mo_qGoesOn 60 rfl) rfl) ?_
                  exact J_sub (ih q36) ⟨rfl, trivial⟩
              · exact J_some (fun hx => Wk_sb hx ⟨rfl, trivial⟩)
        · exact J_some (fun hx => Wk_sb hx ⟨rfl, trivial⟩)
      · exact J_some (fun hx => Wk_sb hx ⟨rfl, trivial⟩)
  refine J_seq (fun (q37 : SM) => Wk p l e R s m args below meth c G 2 Q 0 0 jN0 (jce G q37) 122 [some (.ref a0), none] []) (J_sub (L0 a0 hp0 jfuel M) ⟨rfl, trivial⟩) (fun q37 hq37 => ?_)
  refine J_mono (w_aload_n C (jd jdt_Mo_qGoesOn 61 rfl) rfl) ?_
  refine J_mono (w_bipush_42 C (jd jdt_Mo_qGoesOn 62 rfl)) ?_
  refine J_bind (fun q38 hq38 => ?_)
  refine J_mono (jc_Mo_252 C hp0 (C_Mo_takesSign l G F a0 42 hp0 q37 hq38) rfl (Nat.le_trans (Nat.le_of_ble_eq_true rfl : 2 + 1 ≤ 4) hD) (jd jdt_Mo_qGoesOn 63 rfl)) ?_
  refine J_br (w_if_ne (y := 0) C (jd jdt_Mo_qGoesOn 64 rfl) rfl) (fun h39 => J_pos h39 ?_) (fun h39 => J_neg h39 ?_)
  · refine J_mono (w_aload_n C (jd jdt_Mo_qGoesOn 65 rfl) rfl) ?_
    refine J_mono (w_bipush_47 C (jd jdt_Mo_qGoesOn 66 rfl)) ?_
    refine J_bind (fun q40 hq40 => ?_)
    refine J_mono (jc_Mo_252 C hp0 (C_Mo_takesSign l G F a0 47 hp0 q38.2 hq40) rfl (Nat.le_trans (Nat.le_of_ble_eq_true rfl : 2 + 1 ≤ 4) hD) (jd jdt_Mo_qGoesOn 67 rfl)) ?_
    refine J_br (w_if_eq (y := 0) C (jd jdt_Mo_qGoesOn 68 rfl) rfl) (fun h41 => J_pos h41 ?_) (fun h41 => J_neg h41 ?_)
    · refine J_mono (w_aload_n C (jd jdt_Mo_qGoesOn 107 rfl) rfl) ?_
      refine J_mono (w_bipush_43 C (jd jdt_Mo_qGoesOn 108 rfl)) ?_
      refine J_bind (fun q42 hq42 => ?_)
      refine J_mono (jc_Mo_252 C hp0 (C_Mo_takesSign l G F a0 43 hp0 q40.2 hq42) rfl (Nat.le_trans (Nat.le_of_ble_eq_true rfl : 2 + 1 ≤ 4) hD) (jd jdt_Mo_qGoesOn 109 rfl)) ?_
      refine J_br (w_if_ne (y := 0) C (jd jdt_Mo_qGoesOn 110 rfl) rfl) (fun h43 => J_pos h43 ?_) (fun h43 => J_neg h43 ?_)
      · refine J_mono (w_aload_n C (jd jdt_Mo_qGoesOn 111 rfl) rfl) ?_
        refine J_mono (w_bipush_45 C (jd jdt_Mo_qGoesOn 112 rfl)) ?_
        refine J_bind (fun q44 hq44 => ?_)
        refine J_mono (jc_Mo_252 C hp0 (C_Mo_takesSign l G F a0 45 hp0 q42.2 hq44) rfl (Nat.le_trans (Nat.le_of_ble_eq_true rfl : 2 + 1 ≤ 4) hD) (jd jdt_Mo_qGoesOn 113 rfl)) ?_
        refine J_br (w_if_eq (y := 0) C (jd jdt_Mo_qGoesOn 114 rfl) rfl) (fun h45 => J_pos h45 ?_) (fun h45 => J_neg h45 ?_)
        · refine J_mono (w_aload_n C (jd jdt_Mo_qGoesOn 161 rfl) rfl) ?_
          refine J_bind (fun q46 hq46 => ?_)
          refine J_mono (jc_Mo_554 C hp0 (C_Mo_qBracket l G F a0 hp0 q44.2 hq46) rfl (Nat.le_trans (Nat.le_of_ble_eq_true rfl : 2 + 1 ≤ 4) hD) (jd jdt_Mo_qGoesOn 162 rfl)) ?_
          refine J_mono (w_bipush_21 C (jd jdt_Mo_qGoesOn 163 rfl)) ?_
          refine J_br (w_icmp_eq C (jd jdt_Mo_qGoesOn 164 rfl) rfl) (fun h47 => J_pos h47 ?_) (fun h47 => J_neg h47 ?_)
          · refine J_mono (w_aload_n C (jd jdt_Mo_qGoesOn 169 rfl) rfl) ?_
            refine J_mono (w_bipush_44 C (jd jdt_Mo_qGoesOn 170 rfl)) ?_
            refine J_bind (fun q48 hq48 => ?_)
            refine J_mono (jc_Mo_301 C hp0 (C_Mo_asksSign l G F a0 44 hp0 q44.2 hq48) rfl (Nat.le_trans (Nat.le_of_ble_eq_true rfl : 3 + 1 ≤ 4) hD) (jd jdt_Mo_qGoesOn 171 rfl)) ?_
            refine J_mono (w_aload_n C (jd jdt_Mo_qGoesOn 172 rfl) rfl) ?_
            refine J_mono (jg_Mo_218 C hp0 (jd jdt_Mo_qGoesOn 173 rfl)) ?_
            refine J_br (w_if_eq (y := 0) C (jd jdt_Mo_qGoesOn 174 rfl) rfl) (fun h49 => J_pos h49 ?_) (fun h49 => J_neg h49 ?_)
            · refine J_mono (w_aload_n C (jd jdt_Mo_qGoesOn 177 rfl) rfl) ?_
              refine J_bind (fun q50 hq50 => ?_)
              refine J_mono (jc_Mo_557 C hp0 (C_Mo_qDropsToBracket l G F a0 hp0 q48 hq50) rfl (Nat.le_trans (Nat.le_of_ble_eq_true rfl : 3 + 1 ≤ 4) hD) (jd jdt_Mo_qGoesOn 178 rfl)) ?_
              refine J_mono (w_aload_n C (jd jdt_Mo_qGoesOn 179 rfl) rfl) ?_
              refine J_mono (jg_Mo_206 C hp0 (jd jdt_Mo_qGoesOn 180 rfl)) ?_
              refine J_mono (w_aload_n C (jd jdt_Mo_qGoesOn 181 rfl) rfl) ?_
              refine J_mono (jg_Mo_524 C hp0 (jd jdt_Mo_qGoesOn 182 rfl)) ?_
              refine J_mono (w_iconst_1 C (jd jdt_Mo_qGoesOn 183 rfl)) ?_
              refine J_mono (w_isub C (jd jdt_Mo_qGoesOn 184 rfl)) ?_
              refine J_mono (w_dup2 C (jd jdt_Mo_qGoesOn 185 rfl)) ?_
              refine J_bind (fun v51 hv51 => ?_)
              refine J_mono (w_iald C (jkf_12_90 hp0) hv51 (jd jdt_Mo_qGoesOn 186 rfl)) ?_
              refine J_mono (w_iconst_2 C (jd jdt_Mo_qGoesOn 187 rfl)) ?_
              refine J_mono (w_iadd C (jd jdt_Mo_qGoesOn 188 rfl)) ?_
              refine J_bind (fun M52 hM52 => ?_)
              refine J_mono (w_iast C F (jkf_12_90 hp0) hM52 (jd jdt_Mo_qGoesOn 189 rfl)) ?_
              refine J_mono (w_iconst_1 C (jd jdt_Mo_qGoesOn 190 rfl)) ?_
              exact J_some (fun hx => hR 1 M52 hx _ _ (jd jdt_Mo_qGoesOn 191 rfl) rfl)
            · refine J_mono (w_iconst_0 C (jd jdt_Mo_qGoesOn 175 rfl)) ?_
              exact J_some (fun hx => hR 0 q48 hx _ _ (jd jdt_Mo_qGoesOn 176 rfl) rfl)
          · refine J_mono (w_aload_n C (jd jdt_Mo_qGoesOn 165 rfl) rfl) ?_
            refine J_bind (fun q53 hq53 => ?_)
            refine J_mono (jc_Mo_554 C hp0 (C_Mo_qBracket l G F a0 hp0 q44.2 hq53) rfl (Nat.le_trans (Nat.le_of_ble_eq_true rfl : 2 + 1 ≤ 4) hD) (jd jdt_Mo_qGoesOn 166 rfl)) ?_
            refine J_mono (w_bipush_22 C (jd jdt_Mo_qGoesOn 167 rfl)) ?_
            refine J_br (w_icmp_ne C (jd jdt_Mo_qGoesOn 168 rfl) rfl) (fun h54 => J_pos h54 ?_) (fun h54 => J_neg h54 ?_)
            · refine J_mono (w_aload_n C (jd jdt_Mo_qGoesOn 169 rfl) rfl) ?_
              refine J_mono (w_bipush_44 C (jd jdt_Mo_qGoesOn 170 rfl)) ?_
              refine J_bind (fun q55 hq55 => ?_)
              refine J_mono (jc_Mo_301 C hp0 (C_Mo_asksSign l G F a0 44 hp0 q44.2 hq55) rfl (Nat.le_trans (Nat.le_of_ble_eq_true rfl : 3 + 1 ≤ 4) hD) (jd jdt_Mo_qGoesOn 171 rfl)) ?_
              refine J_mono (w_aload_n C (jd jdt_Mo_qGoesOn 172 rfl) rfl) ?_
              refine J_mono (jg_Mo_218 C hp0 (jd jdt_Mo_qGoesOn 173 rfl)) ?_
              refine J_br (w_if_eq (y := 0) C (jd jdt_Mo_qGoesOn 174 rfl) rfl) (fun h56 => J_pos h56 ?_) (fun h56 => J_neg h56 ?_)
              · refine J_mono (w_aload_n C (jd jdt_Mo_qGoesOn 177 rfl) rfl) ?_
                refine J_bind (fun q57 hq57 => ?_)
                refine J_mono (jc_Mo_557 C hp0 (C_Mo_qDropsToBracket l G F a0 hp0 q55 hq57) rfl (Nat.le_trans (Nat.le_of_ble_eq_true rfl : 3 + 1 ≤ 4) hD) (jd jdt_Mo_qGoesOn 178 rfl)) ?_
                refine J_mono (w_aload_n C (jd jdt_Mo_qGoesOn 179 rfl) rfl) ?_
                refine J_mono (jg_Mo_206 C hp0 (jd jdt_Mo_qGoesOn 180 rfl)) ?_
                refine J_mono (w_aload_n C (jd jdt_Mo_qGoesOn 181 rfl) rfl) ?_
                refine J_mono (jg_Mo_524 C hp0 (jd jdt_Mo_qGoesOn 182 rfl)) ?_
                refine J_mono (w_iconst_1 C (jd jdt_Mo_qGoesOn 183 rfl)) ?_
                refine J_mono (w_isub C (jd jdt_Mo_qGoesOn 184 rfl)) ?_
                refine J_mono (w_dup2 C (jd jdt_Mo_qGoesOn 185 rfl)) ?_
                refine J_bind (fun v58 hv58 => ?_)
                refine J_mono (w_iald C (jkf_12_90 hp0) hv58 (jd jdt_Mo_qGoesOn 186 rfl)) ?_
                refine J_mono (w_iconst_2 C (jd jdt_Mo_qGoesOn 187 rfl)) ?_
                refine J_mono (w_iadd C (jd jdt_Mo_qGoesOn 188 rfl)) ?_
                refine J_bind (fun M59 hM59 => ?_)
                refine J_mono (w_iast C F (jkf_12_90 hp0) hM59 (jd jdt_Mo_qGoesOn 189 rfl)) ?_
                refine J_mono (w_iconst_1 C (jd jdt_Mo_qGoesOn 190 rfl)) ?_
                exact J_some (fun hx => hR 1 M59 hx _ _ (jd jdt_Mo_qGoesOn 191 rfl) rfl)
              · refine J_mono (w_iconst_0 C (jd jdt_Mo_qGoesOn 175 rfl)) ?_
                exact J_some (fun hx => hR 0 q55 hx _ _ (jd jdt_Mo_qGoesOn 176 rfl) rfl)
            · refine J_mono (w_aload_n C (jd jdt_Mo_qGoesOn 192 rfl) rfl) ?_
              refine J_bind (fun q60 hq60 => ?_)
              refine J_mono (jc_Mo_554 C hp0 (C_Mo_qBracket l G F a0 hp0 q44.2 hq60) rfl (Nat.le_trans (Nat.le_of_ble_eq_true rfl : 2 + 1 ≤ 4) hD) (jd jdt_Mo_qGoesOn 193 rfl)) ?_
              refine J_mono (w_iconst_m1 C (jd jdt_Mo_qGoesOn 194 rfl)) ?_
              refine J_br (w_icmp_eq C (jd jdt_Mo_qGoesOn 195 rfl) rfl) (fun h61 => J_pos h61 ?_) (fun h61 => J_neg h61 ?_)
              · refine J_mono (w_iconst_0 C (jd jdt_Mo_qGoesOn 204 rfl)) ?_
                exact J_some (fun hx => hR 0 q44.2 hx _ _ (jd jdt_Mo_qGoesOn 205 rfl) rfl)
              · refine J_mono (w_aload_n C (jd jdt_Mo_qGoesOn 196 rfl) rfl) ?_
                refine J_mono (jg_Mo_218 C hp0 (jd jdt_Mo_qGoesOn 197 rfl)) ?_
                refine J_br (w_if_ne (y := 0) C (jd jdt_Mo_qGoesOn 198 rfl) rfl) (fun h62 => J_pos h62 ?_) (fun h62 => J_neg h62 ?_)
                · refine J_mono (w_aload_n C (jd jdt_Mo_qGoesOn 199 rfl) rfl) ?_
                  refine J_mono (w_iconst_1 C (jd jdt_Mo_qGoesOn 200 rfl)) ?_
                  refine J_mono (w_aload_n C (jd jdt_Mo_qGoesOn 201 rfl) rfl) ?_
                  refine J_mono (jg_Mo_224 C hp0 (jd jdt_Mo_qGoesOn 202 rfl)) ?_
                  refine J_bind (fun q63 hq63 => ?_)
                  refine J_mono (jc_Mo_248 C hp0 (C_Mo_fail l G F a0 1 (q44.2.1 a0 2) hp0 q44.2 hq63) rfl (Nat.le_trans (Nat.le_of_ble_eq_true rfl : 1 + 1 ≤ 4) hD) (jd jdt_Mo_qGoesOn 203 rfl)) ?_
                  refine J_mono (w_iconst_0 C (jd jdt_Mo_qGoesOn 204 rfl)) ?_
                  exact J_some (fun hx => hR 0 q63 hx _ _ (jd jdt_Mo_qGoesOn 205 rfl) rfl)
                · refine J_mono (w_iconst_0 C (jd jdt_Mo_qGoesOn 204 rfl)) ?_
                  exact J_some (fun hx => hR 0 q44.2 hx _ _ (jd jdt_Mo_qGoesOn 205 rfl) rfl)
        · refine J_mono (w_aload_n C (jd jdt_Mo_qGoesOn 115 rfl) rfl) ?_
          refine J_mono (jg_Mo_7 C hp0 (jd jdt_Mo_qGoesOn 116 rfl)) ?_
          refine J_mono (w_aload_n C (jd jdt_Mo_qGoesOn 117 rfl) rfl) ?_
          refine J_mono (jg_Mo_224 C hp0 (jd jdt_Mo_qGoesOn 118 rfl)) ?_
          refine J_mono (w_iconst_1 C (jd jdt_Mo_qGoesOn 119 rfl)) ?_
          refine J_mono (w_isub C (jd jdt_Mo_qGoesOn 120 rfl)) ?_
          refine J_bind (fun v64 hv64 => ?_)
          refine J_mono (w_iald C (jkf_12_0 hp0) hv64 (jd jdt_Mo_qGoesOn 121 rfl)) ?_
          refine J_mono (w_bipush_43 C (jd jdt_Mo_qGoesOn 122 rfl)) ?_
          refine J_seq (fun (q65 : Int32) => Wk p l e R s m args below meth c G 2 Q 0 0 jN0 (jce G q44.2) 246 [some (.ref a0), none] [.int q65]) ?_ (fun q65 hq65 => ?_)
          · refine J_br (w_icmp_ne C (jd jdt_Mo_qGoesOn 123 rfl) rfl) (fun h66 => J_pos h66 ?_) (fun h66 => J_neg h66 ?_)
            · refine J_mono (w_iconst_1 C (jd jdt_Mo_qGoesOn 124 rfl)) ?_
              refine J_mono (w_goto C (jd jdt_Mo_qGoesOn 125 rfl) rfl) ?_
              exact J_some (fun hx => Wk_sb hx ⟨rfl, trivial⟩)
            · refine J_mono (w_iconst_2 C (jd jdt_Mo_qGoesOn 126 rfl)) ?_
              exact J_some (fun hx => Wk_sb hx ⟨rfl, trivial⟩)
          · refine J_mono (w_istore_n (ls' := [some (.ref a0), some (.int q65)]) C (jd jdt_Mo_qGoesOn 127 rfl) (by decide) rfl rfl) ?_
            have L247 : ∀ (y0 : Nat) (y1 : Int32) (hy0 : jkd y0 12) (n : Nat)  (M : SM), J (fun (q79 : SM) => Wk p l e R s m args below meth c G 2 Q 0 0 jN0 (jce G q79) 286 [some (.ref y0), some (.int y1)] []) (lp_Mo_qGoesOn_247 y0 n M) (Wk p l e R s m args below meth c G 2 Q 0 0 jN0 (jce G M) 247 [some (.ref y0), some (.int y1)] []) := by
              intro y0 y1 hy0 n
              induction n with
              | zero => intro  M; exact J_none
              | succ n ih =>
                intro  M
                unfold lp_Mo_qGoesOn_247
                refine J_mono (w_aload_n C (jd jdt_Mo_qGoesOn 128 rfl) rfl) ?_
                refine J_mono (w_iconst_3 C (jd jdt_Mo_qGoesOn 129 rfl)) ?_
                refine J_bind (fun q67 hq67 => ?_)
                refine J_mono (jc_Mo_560 C hy0 (C_Mo_qIsOn l G F y0 3 hy0 M hq67) rfl (Nat.le_trans (Nat.le_of_ble_eq_true rfl : 1 + 1 ≤ 4) hD) (jd jdt_Mo_qGoesOn 130 rfl)) ?_
                refine J_br (w_if_ne (y := 0) C (jd jdt_Mo_qGoesOn 131 rfl) rfl) (fun h68 => J_pos h68 ?_) (fun h68 => J_neg h68 ?_)
                · refine J_mono (w_aload_n C (jd jdt_Mo_qGoesOn 132 rfl) rfl) ?_
                  refine J_mono (w_iconst_4 C (jd jdt_Mo_qGoesOn 133 rfl)) ?_
                  refine J_bind (fun q69 hq69 => ?_)
                  refine J_mono (jc_Mo_560 C hy0 (C_Mo_qIsOn l G F y0 4 hy0 M hq69) rfl (Nat.le_trans (Nat.le_of_ble_eq_true rfl : 1 + 1 ≤ 4) hD) (jd jdt_Mo_qGoesOn 134 rfl)) ?_
                  refine J_br (w_if_ne (y := 0) C (jd jdt_Mo_qGoesOn 135 rfl) rfl) (fun h70 => J_pos h70 ?_) (fun h70 => J_neg h70 ?_)
                  · refine J_mono (w_aload_n C (jd jdt_Mo_qGoesOn 136 rfl) rfl) ?_
                    refine J_mono (w_iconst_1 C (jd jdt_Mo_qGoesOn 137 rfl)) ?_
                    refine J_bind (fun q71 hq71 => ?_)
                    refine J_mono (jc_Mo_560 C hy0 (C_Mo_qIsOn l G F y0 1 hy0 M hq71) rfl (Nat.le_trans (Nat.le_of_ble_eq_true rfl : 1 + 1 ≤ 4) hD) (jd jdt_Mo_qGoesOn 138 rfl)) ?_
                    refine J_br (w_if_ne (y := 0) C (jd jdt_Mo_qGoesOn 139 rfl) rfl) (fun h72 => J_pos h72 ?_) (fun h72 => J_neg h72 ?_)
                    · refine J_mono (w_aload_n C (jd jdt_Mo_qGoesOn 140 rfl) rfl) ?_
                      refine J_mono (w_iconst_2 C (jd jdt_Mo_qGoesOn 141 rfl)) ?_
                      refine J_bind (fun q73 hq73 => ?_)
                      refine J_mono (jc_Mo_560 C hy0 (C_Mo_qIsOn l G F y0 2 hy0 M hq73) rfl (Nat.le_trans (Nat.le_of_ble_eq_true rfl : 1 + 1 ≤ 4) hD) (jd jdt_Mo_qGoesOn 142 rfl)) ?_
                      refine J_br (w_if_eq (y := 0) C (jd jdt_Mo_qGoesOn 143 rfl) rfl) (fun h74 => J_pos h74 ?_) (fun h74 => J_neg h74 ?_)
                      · exact J_some (fun hx => Wk_sb hx ⟨rfl, rfl, trivial⟩)
                      · refine J_mono (w_aload_n C (jd jdt_Mo_qGoesOn 144 rfl) rfl) ?_
                        refine J_bind (fun q75 hq75 => ?_)
                        refine J_mono (jc_Mo_536 C hy0 (C_Mo_qDrops l G F y0 hy0 M hq75) rfl (Nat.le_trans (Nat.le_of_ble_eq_true rfl : 2 + 1 ≤ 4) hD) (jd jdt_Mo_qGoesOn 145 rfl)) ?_
                        refine J_mono (w_goto C (jd jdt_Mo_qGoesOn 146 rfl) rfl) ?_
                        exact J_sub (ih q75) ⟨rfl, rfl, trivial⟩
                    · refine J_mono (w_aload_n C (jd jdt_Mo_qGoesOn 144 rfl) rfl) ?_
                      refine J_bind (fun q76 hq76 => ?_)
                      refine J_mono (jc_Mo_536 C hy0 (C_Mo_qDrops l G F y0 hy0 M hq76) rfl (Nat.le_trans (Nat.le_of_ble_eq_true rfl : 2 + 1 ≤ 4) hD) (jd jdt_Mo_qGoesOn 145 rfl)) ?_
                      refine J_mono (w_goto C (jd jdt_Mo_qGoesOn 146 rfl) rfl) ?_
                      exact J_sub (ih q76) ⟨rfl, rfl, trivial⟩
                  · refine J_mono (w_aload_n C (jd jdt_Mo_qGoesOn 144 rfl) rfl) ?_
                    refine J_bind (fun q77 hq77 => ?_)
                    refine J_mono (jc_Mo_536 C hy0 (C_Mo_qDrops l G F y0 hy0 M hq77) rfl (Nat.le_trans (Nat.le_of_ble_eq_true rfl : 2 + 1 ≤ 4) hD) (jd jdt_Mo_qGoesOn 145 rfl)) ?_
                    refine J_mono (w_goto C (jd jdt_Mo_qGoesOn 146 rfl) rfl) ?_
                    exact J_sub (ih q77) ⟨rfl, rfl, trivial⟩
                · refine J_mono (w_aload_n C (jd jdt_Mo_qGoesOn 144 rfl) rfl) ?_
                  refine J_bind (fun q78 hq78 => ?_)
                  refine J_mono (jc_Mo_536 C hy0 (C_Mo_qDrops l G F y0 hy0 M hq78) rfl (Nat.le_trans (Nat.le_of_ble_eq_true rfl : 2 + 1 ≤ 4) hD) (jd jdt_Mo_qGoesOn 145 rfl)) ?_
                  refine J_mono (w_goto C (jd jdt_Mo_qGoesOn 146 rfl) rfl) ?_
                  exact J_sub (ih q78) ⟨rfl, rfl, trivial⟩
            refine J_seq (fun (q79 : SM) => Wk p l e R s m args below meth c G 2 Q 0 0 jN0 (jce G q79) 286 [some (.ref a0), some (.int q65)] []) (J_sub (L247 a0 q65 hp0 jfuel q44.2) ⟨rfl, rfl, trivial⟩) (fun q79 hq79 => ?_)
            refine J_mono (w_aload_n C (jd jdt_Mo_qGoesOn 147 rfl) rfl) ?_
            refine J_mono (jg_Mo_206 C hp0 (jd jdt_Mo_qGoesOn 148 rfl)) ?_
            refine J_mono (w_aload_n C (jd jdt_Mo_qGoesOn 149 rfl) rfl) ?_
            refine J_mono (jg_Mo_524 C hp0 (jd jdt_Mo_qGoesOn 150 rfl)) ?_
            refine J_mono (w_iload_n C (jd jdt_Mo_qGoesOn 151 rfl) rfl) ?_
            refine J_bind (fun M80 hM80 => ?_)
            refine J_mono (w_iast C F (jkf_12_90 hp0) hM80 (jd jdt_Mo_qGoesOn 152 rfl)) ?_
            refine J_mono (w_aload_n C (jd jdt_Mo_qGoesOn 153 rfl) rfl) ?_
            refine J_mono (w_dup_r C (jd jdt_Mo_qGoesOn 154 rfl)) ?_
            refine J_mono (jg_Mo_524 C hp0 (jd jdt_Mo_qGoesOn 155 rfl)) ?_
            refine J_mono (w_iconst_1 C (jd jdt_Mo_qGoesOn 156 rfl)) ?_
            refine J_mono (w_iadd C (jd jdt_Mo_qGoesOn 157 rfl)) ?_
            refine J_mono (jp_Mo_524 C F hp0 (jd jdt_Mo_qGoesOn 158 rfl)) ?_
            refine J_mono (w_iconst_1 C (jd jdt_Mo_qGoesOn 159 rfl)) ?_
            exact J_some (fun hx => hR 1 (sI M80 a0 91 ((M80.1 a0 91) + 1)) hx _ _ (jd jdt_Mo_qGoesOn 160 rfl) rfl)
      · refine J_mono (w_aload_n C (jd jdt_Mo_qGoesOn 115 rfl) rfl) ?_
        refine J_mono (jg_Mo_7 C hp0 (jd jdt_Mo_qGoesOn 116 rfl)) ?_
        refine J_mono (w_aload_n C (jd jdt_Mo_qGoesOn 117 rfl) rfl) ?_
        refine J_mono (jg_Mo_224 C hp0 (jd jdt_Mo_qGoesOn 118 rfl)) ?_
        refine J_mono (w_iconst_1 C (jd jdt_Mo_qGoesOn 119 rfl)) ?_
        refine J_mono (w_isub C (jd jdt_Mo_qGoesOn 120 rfl)) ?_
        refine J_bind (fun v81 hv81 => ?_)
        refine J_mono (w_iald C (jkf_12_0 hp0) hv81 (jd jdt_Mo_qGoesOn 121 rfl)) ?_
        refine J_mono (w_bipush_43 C (jd jdt_Mo_qGoesOn 122 rfl)) ?_
        refine J_seq (fun (q82 : Int32) => Wk p l e R s m args below meth c G 2 Q 0 0 jN0 (jce G q42.2) 246 [some (.ref a0), none] [.int q82]) ?_ (fun q82 hq82 => ?_)
        · refine J_br (w_icmp_ne C (jd jdt_Mo_qGoesOn 123 rfl) rfl) (fun h83 => J_pos h83 ?_) (fun h83 => J_neg h83 ?_)
          · refine J_mono (w_iconst_1 C (jd jdt_Mo_qGoesOn 124 rfl)) ?_
            refine J_mono (w_goto C (jd jdt_Mo_qGoesOn 125 rfl) rfl) ?_
            exact J_some (fun hx => Wk_sb hx ⟨rfl, trivial⟩)
          · refine J_mono (w_iconst_2 C (jd jdt_Mo_qGoesOn 126 rfl)) ?_
            exact J_some (fun hx => Wk_sb hx ⟨rfl, trivial⟩)
        · refine J_mono (w_istore_n (ls' := [some (.ref a0), some (.int q82)]) C (jd jdt_Mo_qGoesOn 127 rfl) (by decide) rfl rfl) ?_
          have L247 : ∀ (y0 : Nat) (y1 : Int32) (hy0 : jkd y0 12) (n : Nat)  (M : SM), J (fun (q96 : SM) => Wk p l e R s m args below meth c G 2 Q 0 0 jN0 (jce G q96) 286 [some (.ref y0), some (.int y1)] []) (lp_Mo_qGoesOn_247 y0 n M) (Wk p l e R s m args below meth c G 2 Q 0 0 jN0 (jce G M) 247 [some (.ref y0), some (.int y1)] []) := by
            intro y0 y1 hy0 n
            induction n with
            | zero => intro  M; exact J_none
            | succ n ih =>
              intro  M
              unfold lp_Mo_qGoesOn_247
              refine J_mono (w_aload_n C (jd jdt_Mo_qGoesOn 128 rfl) rfl) ?_
              refine J_mono (w_iconst_3 C (jd jdt_Mo_qGoesOn 129 rfl)) ?_
              refine J_bind (fun q84 hq84 => ?_)
              refine J_mono (jc_Mo_560 C hy0 (C_Mo_qIsOn l G F y0 3 hy0 M hq84) rfl (Nat.le_trans (Nat.le_of_ble_eq_true rfl : 1 + 1 ≤ 4) hD) (jd jdt_Mo_qGoesOn 130 rfl)) ?_
              refine J_br (w_if_ne (y := 0) C (jd jdt_Mo_qGoesOn 131 rfl) rfl) (fun h85 => J_pos h85 ?_) (fun h85 => J_neg h85 ?_)
              · refine J_mono (w_aload_n C (jd jdt_Mo_qGoesOn 132 rfl) rfl) ?_
                refine J_mono (w_iconst_4 C (jd jdt_Mo_qGoesOn 133 rfl)) ?_
                refine J_bind (fun q86 hq86 => ?_)
                refine J_mono (jc_Mo_560 C hy0 (C_Mo_qIsOn l G F y0 4 hy0 M hq86) rfl (Nat.le_trans (Nat.le_of_ble_eq_true rfl : 1 + 1 ≤ 4) hD) (jd jdt_Mo_qGoesOn 134 rfl)) ?_
                refine J_br (w_if_ne (y := 0) C (jd jdt_Mo_qGoesOn 135 rfl) rfl) (fun h87 => J_pos h87 ?_) (fun h87 => J_neg h87 ?_)
                · refine J_mono (w_aload_n C (jd jdt_Mo_qGoesOn 136 rfl) rfl) ?_
                  refine J_mono (w_iconst_1 C (jd jdt_Mo_qGoesOn 137 rfl)) ?_
                  refine J_bind (fun q88 hq88 => ?_)
                  refine J_mono (jc_Mo_560 C hy0 (C_Mo_qIsOn l G F y0 1 hy0 M hq88) rfl (Nat.le_trans (Nat.le_of_ble_eq_true rfl : 1 + 1 ≤ 4) hD) (jd jdt_Mo_qGoesOn 138 rfl)) ?_
                  refine J_br (w_if_ne (y := 0) C (jd jdt_Mo_qGoesOn 139 rfl) rfl) (fun h89 => J_pos h89 ?_) (fun h89 => J_neg h89 ?_)
                  · refine J_mono (w_aload_n C (jd jdt_Mo_qGoesOn 140 rfl) rfl) ?_
                    refine J_mono (w_iconst_2 C (jd jdt_Mo_qGoesOn 141 rfl)) ?_
                    refine J_bind (fun q90 hq90 => ?_)
                    refine J_mono (jc_Mo_560 C hy0 (C_Mo_qIsOn l G F y0 2 hy0 M hq90) rfl (Nat.le_trans (Nat.le_of_ble_eq_true rfl : 1 + 1 ≤ 4) hD) (jd jdt_Mo_qGoesOn 142 rfl)) ?_
                    refine J_br (w_if_eq (y := 0) C (jd jdt_Mo_qGoesOn 143 rfl) rfl) (fun h91 => J_pos h91 ?_) (fun h91 => J_neg h91 ?_)
                    · exact J_some (fun hx => Wk_sb hx ⟨rfl, rfl, trivial⟩)
                    · refine J_mono (w_aload_n C (jd jdt_Mo_qGoesOn 144 rfl) rfl) ?_
                      refine J_bind (fun q92 hq92 => ?_)
                      refine J_mono (jc_Mo_536 C hy0 (C_Mo_qDrops l G F y0 hy0 M hq92) rfl (Nat.le_trans (Nat.le_of_ble_eq_true rfl : 2 + 1 ≤ 4) hD) (jd jdt_Mo_qGoesOn 145 rfl)) ?_
                      refine J_mono (w_goto C (jd jdt_Mo_qGoesOn 146 rfl) rfl) ?_
                      exact J_sub (ih q92) ⟨rfl, rfl, trivial⟩
                  · refine J_mono (w_aload_n C (jd jdt_Mo_qGoesOn 144 rfl) rfl) ?_
                    refine J_bind (fun q93 hq93 => ?_)
                    refine J_mono (jc_Mo_536 C hy0 (C_Mo_qDrops l G F y0 hy0 M hq93) rfl (Nat.le_trans (Nat.le_of_ble_eq_true rfl : 2 + 1 ≤ 4) hD) (jd jdt_Mo_qGoesOn 145 rfl)) ?_
                    refine J_mono (w_goto C (jd jdt_Mo_qGoesOn 146 rfl) rfl) ?_
                    exact J_sub (ih q93) ⟨rfl, rfl, trivial⟩
                · refine J_mono (w_aload_n C (jd jdt_Mo_qGoesOn 144 rfl) rfl) ?_
                  refine J_bind (fun q94 hq94 => ?_)
                  refine J_mono (jc_Mo_536 C hy0 (C_Mo_qDrops l G F y0 hy0 M hq94) rfl (Nat.le_trans (Nat.le_of_ble_eq_true rfl : 2 + 1 ≤ 4) hD) (jd jdt_Mo_qGoesOn 145 rfl)) ?_
                  refine J_mono (w_goto C (jd jdt_Mo_qGoesOn 146 rfl) rfl) ?_
                  exact J_sub (ih q94) ⟨rfl, rfl, trivial⟩
              · refine J_mono (w_aload_n C (jd jdt_Mo_qGoesOn 144 rfl) rfl) ?_
                refine J_bind (fun q95 hq95 => ?_)
                refine J_mono (jc_Mo_536 C hy0 (C_Mo_qDrops l G F y0 hy0 M hq95) rfl (Nat.le_trans (Nat.le_of_ble_eq_true rfl : 2 + 1 ≤ 4) hD) (jd jdt_Mo_qGoesOn 145 rfl)) ?_
                refine J_mono (w_goto C (jd jdt_Mo_qGoesOn 146 rfl) rfl) ?_
                exact J_sub (ih q95) ⟨rfl, rfl, trivial⟩
          refine J_seq (fun (q96 : SM) => Wk p l e R s m args below meth c G 2 Q 0 0 jN0 (jce G q96) 286 [some (.ref a0), some (.int q82)] []) (J_sub (L247 a0 q82 hp0 jfuel q42.2) ⟨rfl, rfl, trivial⟩) (fun q96 hq96 => ?_)
          refine J_mono (w_aload_n C (jd jdt_Mo_qGoesOn 147 rfl) rfl) ?_
          refine J_mono (jg_Mo_206 C hp0 (jd jdt_Mo_qGoesOn 148 rfl)) ?_
          refine J_mono (w_aload_n C (jd jdt_Mo_qGoesOn 149 rfl) rfl) ?_
          refine J_mono (jg_Mo_524 C hp0 (jd jdt_Mo_qGoesOn 150 rfl)) ?_
          refine J_mono (w_iload_n C (jd jdt_Mo_qGoesOn 151 rfl) rfl) ?_
          refine J_bind (fun M97 hM97 => ?_)
          refine J_mono (w_iast C F (jkf_12_90 hp0) hM97 (jd jdt_Mo_qGoesOn 152 rfl)) ?_
          refine J_mono (w_aload_n C (jd jdt_Mo_qGoesOn 153 rfl) rfl) ?_
          refine J_mono (w_dup_r C (jd jdt_Mo_qGoesOn 154 rfl)) ?_
          refine J_mono (jg_Mo_524 C hp0 (jd jdt_Mo_qGoesOn 155 rfl)) ?_
          refine J_mono (w_iconst_1 C (jd jdt_Mo_qGoesOn 156 rfl)) ?_
          refine J_mono (w_iadd C (jd jdt_Mo_qGoesOn 157 rfl)) ?_
          refine J_mono (jp_Mo_524 C F hp0 (jd jdt_Mo_qGoesOn 158 rfl)) ?_
          refine J_mono (w_iconst_1 C (jd jdt_Mo_qGoesOn 159 rfl)) ?_
          exact J_some (fun hx => hR 1 (sI M97 a0 91 ((M97.1 a0 91) + 1)) hx _ _ (jd jdt_Mo_qGoesOn 160 rfl) rfl)
    · refine J_mono (w_aload_n C (jd jdt_Mo_qGoesOn 69 rfl) rfl) ?_
      refine J_mono (jg_Mo_7 C hp0 (jd jdt_Mo_qGoesOn 70 rfl)) ?_
      refine J_mono (w_aload_n C (jd jdt_Mo_qGoesOn 71 rfl) rfl) ?_
      refine J_mono (jg_Mo_224 C hp0 (jd jdt_Mo_qGoesOn 72 rfl)) ?_
      refine J_mono (w_iconst_1 C (jd jdt_Mo_qGoesOn 73 rfl)) ?_
      refine J_mono (w_isub C (jd jdt_Mo_qGoesOn 74 rfl)) ?_
      refine J_bind (fun v98 hv98 => ?_)
      refine J_mono (w_iald C (jkf_12_0 hp0) hv98 (jd jdt_Mo_qGoesOn 75 rfl)) ?_
      refine J_mono (w_bipush_42 C (jd jdt_Mo_qGoesOn 76 rfl)) ?_
      refine J_seq (fun (q99 : Int32) => Wk p l e R s m args below meth c G 2 Q 0 0 jN0 (jce G q40.2) 161 [some (.ref a0), none] [.int q99]) ?_ (fun q99 hq99 => ?_)
      · refine J_br (w_icmp_ne C (jd jdt_Mo_qGoesOn 77 rfl) rfl) (fun h100 => J_pos h100 ?_) (fun h100 => J_neg h100 ?_)
        · refine J_mono (w_iconst_3 C (jd jdt_Mo_qGoesOn 78 rfl)) ?_
          refine J_mono (w_goto C (jd jdt_Mo_qGoesOn 79 rfl) rfl) ?_
          exact J_some (fun hx => Wk_sb hx ⟨rfl, trivial⟩)
        · refine J_mono (w_iconst_4 C (jd jdt_Mo_qGoesOn 80 rfl)) ?_
          exact J_some (fun hx => Wk_sb hx ⟨rfl, trivial⟩)
      · refine J_mono (w_istore_n (ls' := [some (.ref a0), some (.int q99)]) C (jd jdt_Mo_qGoesOn 81 rfl) (by decide) rfl rfl) ?_
        have L162 : ∀ (y0 : Nat) (y1 : Int32) (hy0 : jkd y0 12) (n : Nat)  (M : SM), J (fun (q107 : SM) => Wk p l e R s m args below meth c G 2 Q 0 0 jN0 (jce G q107) 185 [some (.ref y0), some (.int y1)] []) (lp_Mo_qGoesOn_162 y0 n M) (Wk p l e R s m args below meth c G 2 Q 0 0 jN0 (jce G M) 162 [some (.ref y0), some (.int y1)] []) := by
          intro y0 y1 hy0 n
          induction n with
          | zero => intro  M; exact J_none
          | succ n ih =>
            intro  M
            unfold lp_Mo_qGoesOn_162
            refine J_mono (w_aload_n C (jd jdt_Mo_qGoesOn 82 rfl) rfl) ?_
            refine J_mono (w_iconst_3 C (jd jdt_Mo_qGoesOn 83 rfl)) ?_
            refine J_bind (fun q101 hq101 => ?_)
            refine J_mono (jc_Mo_560 C hy0 (C_Mo_qIsOn l G F y0 3 hy0 M hq101) rfl (Nat.le_trans (Nat.le_of_ble_eq_true rfl : 1 + 1 ≤ 4) hD) (jd jdt_Mo_qGoesOn 84 rfl)) ?_
            refine J_br (w_if_ne (y := 0) C (jd jdt_Mo_qGoesOn 85 rfl) rfl) (fun h102 => J_pos h102 ?_) (fun h102 => J_neg h102 ?_)
            · refine J_mono (w_aload_n C (jd jdt_Mo_qGoesOn 86 rfl) rfl) ?_
              refine J_mono (w_iconst_4 C (jd jdt_Mo_qGoesOn 87 rfl)) ?_
              refine J_bind (fun q103 hq103 => ?_)
              refine J_mono (jc_Mo_560 C hy0 (C_Mo_qIsOn l G F y0 4 hy0 M hq103) rfl (Nat.le_trans (Nat.le_of_ble_eq_true rfl : 1 + 1 ≤ 4) hD) (jd jdt_Mo_qGoesOn 88 rfl)) ?_
              refine J_br (w_if_eq (y := 0) C (jd jdt_Mo_qGoesOn 89 rfl) rfl) (fun h104 => J_pos h104 ?_) (fun h104 => J_neg h104 ?_)
              · exact J_some (fun hx => Wk_sb hx ⟨rfl, rfl, trivial⟩)
              · refine J_mono (w_aload_n C (jd jdt_Mo_qGoesOn 90 rfl) rfl) ?_
                refine J_bind (fun q105 hq105 => ?_)
                refine J_mono (jc_Mo_536 C hy0 (C_Mo_qDrops l G F y0 hy0 M hq105) rfl (Nat.le_trans (Nat.le_of_ble_eq_true rfl : 2 + 1 ≤ 4) hD) (jd jdt_Mo_qGoesOn 91 rfl)) ?_
                refine J_mono (w_goto C (jd jdt_Mo_qGoesOn 92 rfl) rfl) ?_
                exact J_sub (ih q105) ⟨rfl, rfl, trivial⟩
            · refine J_mono (w_aload_n C (jd jdt_Mo_qGoesOn 90 rfl) rfl) ?_
              refine J_bind (fun q106 hq106 => ?_)
              refine J_mono (jc_Mo_536 C hy0 (C_Mo_qDrops l G F y0 hy0 M hq106) rfl (Nat.le_trans (Nat.le_of_ble_eq_true rfl : 2 + 1 ≤ 4) hD) (jd jdt_Mo_qGoesOn 91 rfl)) ?_
              refine J_mono (w_goto C (jd jdt_Mo_qGoesOn 92 rfl) rfl) ?_
              exact J_sub (ih q106) ⟨rfl, rfl, trivial⟩
        refine J_seq (fun (q107 : SM) => Wk p l e R s m args below meth c G 2 Q 0 0 jN0 (jce G q107) 185 [some (.ref a0), some (.int q99)] []) (J_sub (L162 a0 q99 hp0 jfuel q40.2) ⟨rfl, rfl, trivial⟩) (fun q107 hq107 => ?_)
        refine J_mono (w_aload_n C (jd jdt_Mo_qGoesOn 93 rfl) rfl) ?_
        refine J_mono (jg_Mo_206 C hp0 (jd jdt_Mo_qGoesOn 94 rfl)) ?_
        refine J_mono (w_aload_n C (jd jdt_Mo_qGoesOn 95 rfl) rfl) ?_
        refine J_mono (jg_Mo_524 C hp0 (jd jdt_Mo_qGoesOn 96 rfl)) ?_
        refine J_mono (w_iload_n C (jd jdt_Mo_qGoesOn 97 rfl) rfl) ?_
        refine J_bind (fun M108 hM108 => ?_)
        refine J_mono (w_iast C F (jkf_12_90 hp0) hM108 (jd jdt_Mo_qGoesOn 98 rfl)) ?_
        refine J_mono (w_aload_n C (jd jdt_Mo_qGoesOn 99 rfl) rfl) ?_
        refine J_mono (w_dup_r C (jd jdt_Mo_qGoesOn 100 rfl)) ?_
        refine J_mono (jg_Mo_524 C hp0 (jd jdt_Mo_qGoesOn 101 rfl)) ?_
        refine J_mono (w_iconst_1 C (jd jdt_Mo_qGoesOn 102 rfl)) ?_
        refine J_mono (w_iadd C (jd jdt_Mo_qGoesOn 103 rfl)) ?_
        refine J_mono (jp_Mo_524 C F hp0 (jd jdt_Mo_qGoesOn 104 rfl)) ?_
        refine J_mono (w_iconst_1 C (jd jdt_Mo_qGoesOn 105 rfl)) ?_
        exact J_some (fun hx => hR 1 (sI M108 a0 91 ((M108.1 a0 91) + 1)) hx _ _ (jd jdt_Mo_qGoesOn 106 rfl) rfl)
  · refine J_mono (w_aload_n C (jd jdt_Mo_qGoesOn 69 rfl) rfl) ?_
    refine J_mono (jg_Mo_7 C hp0 (jd jdt_Mo_qGoesOn 70 rfl)) ?_
    refine J_mono (w_aload_n C (jd jdt_Mo_qGoesOn 71 rfl) rfl) ?_
    refine J_mono (jg_Mo_224 C hp0 (jd jdt_Mo_qGoesOn 72 rfl)) ?_
    refine J_mono (w_iconst_1 C (jd jdt_Mo_qGoesOn 73 rfl)) ?_
    refine J_mono (w_isub C (jd jdt_Mo_qGoesOn 74 rfl)) ?_
    refine J_bind (fun v109 hv109 => ?_)
    refine J_mono (w_iald C (jkf_12_0 hp0) hv109 (jd jdt_Mo_qGoesOn 75 rfl)) ?_
    refine J_mono (w_bipush_42 C (jd jdt_Mo_qGoesOn 76 rfl)) ?_
    refine J_seq (fun (q110 : Int32) => Wk p l e R s m args below meth c G 2 Q 0 0 jN0 (jce G q38.2) 161 [some (.ref a0), none] [.int q110]) ?_ (fun q110 hq110 => ?_)
    · refine J_br (w_icmp_ne C (jd jdt_Mo_qGoesOn 77 rfl) rfl) (fun h111 => J_pos h111 ?_) (fun h111 => J_neg h111 ?_)
      · refine J_mono (w_iconst_3 C (jd jdt_Mo_qGoesOn 78 rfl)) ?_
        refine J_mono (w_goto C (jd jdt_Mo_qGoesOn 79 rfl) rfl) ?_
        exact J_some (fun hx => Wk_sb hx ⟨rfl, trivial⟩)
      · refine J_mono (w_iconst_4 C (jd jdt_Mo_qGoesOn 80 rfl)) ?_
        exact J_some (fun hx => Wk_sb hx ⟨rfl, trivial⟩)
    · refine J_mono (w_istore_n (ls' := [some (.ref a0), some (.int q110)]) C (jd jdt_Mo_qGoesOn 81 rfl) (by decide) rfl rfl) ?_
      have L162 : ∀ (y0 : Nat) (y1 : Int32) (hy0 : jkd y0 12) (n : Nat)  (M : SM), J (fun (q118 : SM) => Wk p l e R s m args below meth c G 2 Q 0 0 jN0 (jce G q118) 185 [some (.ref y0), some (.int y1)] []) (lp_Mo_qGoesOn_162 y0 n M) (Wk p l e R s m args below meth c G 2 Q 0 0 jN0 (jce G M) 162 [some (.ref y0), some (.int y1)] []) := by
        intro y0 y1 hy0 n
        induction n with
        | zero => intro  M; exact J_none
        | succ n ih =>
          intro  M
          unfold lp_Mo_qGoesOn_162
          refine J_mono (w_aload_n C (jd jdt_Mo_qGoesOn 82 rfl) rfl) ?_
          refine J_mono (w_iconst_3 C (jd jdt_Mo_qGoesOn 83 rfl)) ?_
          refine J_bind (fun q112 hq112 => ?_)
          refine J_mono (jc_Mo_560 C hy0 (C_Mo_qIsOn l G F y0 3 hy0 M hq112) rfl (Nat.le_trans (Nat.le_of_ble_eq_true rfl : 1 + 1 ≤ 4) hD) (jd jdt_Mo_qGoesOn 84 rfl)) ?_
          refine J_br (w_if_ne (y := 0) C (jd jdt_Mo_qGoesOn 85 rfl) rfl) (fun h113 => J_pos h113 ?_) (fun h113 => J_neg h113 ?_)
          · refine J_mono (w_aload_n C (jd jdt_Mo_qGoesOn 86 rfl) rfl) ?_
            refine J_mono (w_iconst_4 C (jd jdt_Mo_qGoesOn 87 rfl)) ?_
            refine J_bind (fun q114 hq114 => ?_)
            refine J_mono (jc_Mo_560 C hy0 (C_Mo_qIsOn l G F y0 4 hy0 M hq114) rfl (Nat.le_trans (Nat.le_of_ble_eq_true rfl : 1 + 1 ≤ 4) hD) (jd jdt_Mo_qGoesOn 88 rfl)) ?_
            refine J_br (w_if_eq (y := 0) C (jd jdt_Mo_qGoesOn 89 rfl) rfl) (fun h115 => J_pos h115 ?_) (fun h115 => J_neg h115 ?_)
            · exact J_some (fun hx => Wk_sb hx ⟨rfl, rfl, trivial⟩)
            · refine J_mono (w_aload_n C (jd jdt_Mo_qGoesOn 90 rfl) rfl) ?_
              refine J_bind (fun q116 hq116 => ?_)
              refine J_mono (jc_Mo_536 C hy0 (C_Mo_qDrops l G F y0 hy0 M hq116) rfl (Nat.le_trans (Nat.le_of_ble_eq_true rfl : 2 + 1 ≤ 4) hD) (jd jdt_Mo_qGoesOn 91 rfl)) ?_
              refine J_mono (w_goto C (jd jdt_Mo_qGoesOn 92 rfl) rfl) ?_
              exact J_sub (ih q116) ⟨rfl, rfl, trivial⟩
          · refine J_mono (w_aload_n C (jd jdt_Mo_qGoesOn 90 rfl) rfl) ?_
            refine J_bind (fun q117 hq117 => ?_)
            refine J_mono (jc_Mo_536 C hy0 (C_Mo_qDrops l G F y0 hy0 M hq117) rfl (Nat.le_trans (Nat.le_of_ble_eq_true rfl : 2 + 1 ≤ 4) hD) (jd jdt_Mo_qGoesOn 91 rfl)) ?_
            refine J_mono (w_goto C (jd jdt_Mo_qGoesOn 92 rfl) rfl) ?_
            exact J_sub (ih q117) ⟨rfl, rfl, trivial⟩
      refine J_seq (fun (q118 : SM) => Wk p l e R s m args below meth c G 2 Q 0 0 jN0 (jce G q118) 185 [some (.ref a0), some (.int q110)] []) (J_sub (L162 a0 q110 hp0 jfuel q38.2) ⟨rfl, rfl, trivial⟩) (fun q118 hq118 => ?_)
      refine J_mono (w_aload_n C (jd jdt_Mo_qGoesOn 93 rfl) rfl) ?_
      refine J_mono (jg_Mo_206 C hp0 (jd jdt_Mo_qGoesOn 94 rfl)) ?_
      refine J_mono (w_aload_n C (jd jdt_Mo_qGoesOn 95 rfl) rfl) ?_
      refine J_mono (jg_Mo_524 C hp0 (jd jdt_Mo_qGoesOn 96 rfl)) ?_
      refine J_mono (w_iload_n C (jd jdt_Mo_qGoesOn 97 rfl) rfl) ?_
      refine J_bind (fun M119 hM119 => ?_)
      refine J_mono (w_iast C F (jkf_12_90 hp0) hM119 (jd jdt_Mo_qGoesOn 98 rfl)) ?_
      refine J_mono (w_aload_n C (jd jdt_Mo_qGoesOn 99 rfl) rfl) ?_
      refine J_mono (w_dup_r C (jd jdt_Mo_qGoesOn 100 rfl)) ?_
      refine J_mono (jg_Mo_524 C hp0 (jd jdt_Mo_qGoesOn 101 rfl)) ?_
      refine J_mono (w_iconst_1 C (jd jdt_Mo_qGoesOn 102 rfl)) ?_
      refine J_mono (w_iadd C (jd jdt_Mo_qGoesOn 103 rfl)) ?_
      refine J_mono (jp_Mo_524 C F hp0 (jd jdt_Mo_qGoesOn 104 rfl)) ?_
      refine J_mono (w_iconst_1 C (jd jdt_Mo_qGoesOn 105 rfl)) ?_
      exact J_some (fun hx => hR 1 (sI M119 a0 91 ((M119.1 a0 91) + 1)) hx _ _ (jd jdt_Mo_qGoesOn 106 rfl) rfl)
end
theorem C_Mo_qGoesOn (l : Launch) (G : JG) (F : jF G = false) (a0 : Nat) (hp0 : jkd a0 12) (M : SM) {q : (Int32 × SM)} (hf : f_Mo_qGoesOn a0 M = some q) : jMet l jy_Mo_qGoesOn jb_Mo_qGoesOn 2 (some FieldType.boolean) 4 0 0 G [.ref a0] jN0 (jce G M) (some (.int q.1)) jN0 (jce G q.2) :=
  j_met jo_Mo_qGoesOn (by decide) (Nat.le_of_ble_eq_true rfl) (fun p e s m args below meth c C hr hm => K_Mo_qGoesOn C F (Nat.le_refl _) a0 hp0 M (fun t => t = q) (fun v M' hX pc ls hd hn => by cases hX; exact w_iret C hr hn hd) _ hf rfl)
def lp_Mo_qSums_15 (y0 : Nat) : Nat → Int32 → SM → Option (SM)
  | 0, _, _ => none
  | n + 1, x2, M => if x2 = 0 then (some M) else (if (M.1 y0 5) = 0 then ((f_Mo_qPartTold y0 M).bind fun q3 => (if (q3.1 y0 5) = 0 then ((f_Mo_qGoesOn y0 q3).bind fun q6 => if q6.1 = 0 then (some (0, q6.2)) else (some (1, q6.2))) else (some (0, q3)) : Option (Int32 × SM)).bind fun q4 => lp_Mo_qSums_15 y0 n q4.1 q4.2) else (some M))
def lp_Mo_qSums_53 (y0 : Nat) : Nat → SM → Option (SM)
  | 0, _ => none
  | n + 1, M => if (M.1 y0 5) = 0 then (if (M.1 y0 93) < (M.1 y0 91) then ((f_Mo_qDrops y0 M).bind fun q11 => lp_Mo_qSums_53 y0 n q11) else (some M)) else (some M)
def f_Mo_qSums (a0 : Nat) (M : SM) : Option SM := (lp_Mo_qSums_15 a0 jfuel 1 (sI M a0 93 (M.1 a0 91))).bind fun q8 => (lp_Mo_qSums_53 a0 jfuel q8).bind fun q12 => some (sI q12 a0 93 (M.1 a0 93))
section
variable {p : Program} {l : Launch} {e : Env} {R : Room} {s : State} {m : MethodId} {args : Array Value} {below : List Frame} {meth : Method} {c : Code} {G : JG} {D : Nat} {Q : State → Prop}
set_option maxHeartbeats 4000000 in
set_option maxRecDepth 20000 in
theorem K_Mo_qSums (C : jCx p R s m args meth c G jb_Mo_qSums 3 D "SluicePitModel") (F : jF G = false) (hD : 7 ≤ D) (a0 : Nat) (hp0 : jkd a0 12) (M : SM) (X : SM → Prop) (hR : ∀ M', X M' → ∀ (pc : Nat) (ls : List (Option Value)), decode jb_Mo_qSums pc = .ok (.return_, 1) → Wk p l e R s m args below meth c G 3 Q 0 0 jN0 (jce G M') pc ls []) : J X (f_Mo_qSums a0 M) (Wk p l e R s m args below meth c G 3 Q 0 0 jN0 (jce G M) 0 [some (.ref a0), none, none] []) := by
  unfold f_Mo_qSums
  refine J_mono (w_aload_n C (jd jdt_Mo_qSums 0 rfl) rfl) ?_
  refine J_mono (jg_Mo_530 C hp0 (jd jdt_Mo_qSums 1 rfl)) ?_
  refine J_mono (w_istore_n (ls' := [some (.ref a0), some (.int (M.1 a0 93)), none]) C (jd jdt_Mo_qSums 2 rfl) (by decide) rfl rfl) ?_
  refine J_mono (w_aload_n C (jd jdt_Mo_qSums 3 rfl) rfl) ?_
  refine J_mono (w_aload_n C (jd jdt_Mo_qSums 4 rfl) rfl) ?_
  refine J_mono (jg_Mo_524 C hp0 (jd jdt_Mo_qSums 5 rfl)) ?_
  refine J_mono (jp_Mo_530 C F hp0 (jd jdt_Mo_qSums 6 rfl)) ?_
  refine J_mono (w_iconst_1 C (jd jdt_Mo_qSums 7 rfl)) ?_
  refine J_mono (w_istore_n (ls' := [some (.ref a0), some (.int (M.1 a0 93)), some (.int 1)]) C (jd jdt_Mo_qSums 8 rfl) (by decide) rfl rfl) ?_
  have L15 : ∀ (y0 : Nat) (y1 : Int32) (hy0 : jkd y0 12) (n : Nat) (x2 : Int32) (M : SM), J (fun (q8 : SM) => Wk p l e R s m args below meth c G 3 Q 0 0 jN0 (jce G q8) 53 [some (.ref y0), some (.int y1), none] []) (lp_Mo_qSums_15 y0 n x2 M) (Wk p l e R s m args below meth c G 3 Q 0 0 jN0 (jce G M) 15 [some (.ref y0), some (.int y1), some (.int x2)] []) := by
    intro y0 y1 hy0 n
    induction n with
    | zero => intro x2 M; exact J_none
    | succ n ih =>
      intro x2 M
      unfold lp_Mo_qSums_15
      refine J_mono (w_iload_n C (jd jdt_Mo_qSums 9 rfl) rfl) ?_
      refine J_br (w_if_eq (y := 0) C (jd jdt_Mo_qSums 10 rfl) rfl) (fun h1 => J_pos h1 ?_) (fun h1 => J_neg h1 ?_)
      · exact J_some (fun hx => Wk_sb hx ⟨rfl, rfl, trivial⟩)
      · refine J_mono (w_aload_n C (jd jdt_Mo_qSums 11 rfl) rfl) ?_
        refine J_mono (jg_Mo_218 C hy0 (jd jdt_Mo_qSums 12 rfl)) ?_
        refine J_br (w_if_ne (y := 0) C (jd jdt_Mo_qSums 13 rfl) rfl) (fun h2 => J_pos h2 ?_) (fun h2 => J_neg h2 ?_)
        · refine J_mono (w_aload_n C (jd jdt_Mo_qSums 14 rfl) rfl) ?_
          refine J_bind (fun q3 hq3 => ?_)
          refine J_mono (jc_Mo_563 C hy0 (C_Mo_qPartTold l G F y0 hy0 M hq3) rfl (Nat.le_trans (Nat.le_of_ble_eq_true rfl : 6 + 1 ≤ 7) hD) (jd jdt_Mo_qSums 15 rfl)) ?_
          refine J_mono (w_aload_n C (jd jdt_Mo_qSums 16 rfl) rfl) ?_
          refine J_mono (jg_Mo_218 C hy0 (jd jdt_Mo_qSums 17 rfl)) ?_
          refine J_seq (fun (q4 : Int32 × SM) => Wk p l e R s m args below meth c G 3 Q 0 0 jN0 (jce G q4.2) 49 [some (.ref y0), some (.int y1), none] [.int q4.1]) ?_ (fun q4 hq4 => ?_)
          · refine J_br (w_if_ne (y := 0) C (jd jdt_Mo_qSums 18 rfl) rfl) (fun h5 => J_pos h5 ?_) (fun h5 => J_neg h5 ?_)
            · refine J_mono (w_aload_n C (jd jdt_Mo_qSums 19 rfl) rfl) ?_
              refine J_bind (fun q6 hq6 => ?_)
              refine J_mono (jc_Mo_566 C hy0 (C_Mo_qGoesOn l G F y0 hy0 q3 hq6) rfl (Nat.le_trans (Nat.le_of_ble_eq_true rfl : 4 + 1 ≤ 7) hD) (jd jdt_Mo_qSums 20 rfl)) ?_
              refine J_br (w_if_eq (y := 0) C (jd jdt_Mo_qSums 21 rfl) rfl) (fun h7 => J_pos h7 ?_) (fun h7 => J_neg h7 ?_)
              · refine J_mono (w_iconst_0 C (jd jdt_Mo_qSums 24 rfl)) ?_
                exact J_some (fun hx => Wk_sb hx ⟨rfl, rfl, trivial⟩)
              · refine J_mono (w_iconst_1 C (jd jdt_Mo_qSums 22 rfl)) ?_
                refine J_mono (w_goto C (jd jdt_Mo_qSums 23 rfl) rfl) ?_
                exact J_some (fun hx => Wk_sb hx ⟨rfl, rfl, trivial⟩)
            · refine J_mono (w_iconst_0 C (jd jdt_Mo_qSums 24 rfl)) ?_
              exact J_some (fun hx => Wk_sb hx ⟨rfl, rfl, trivial⟩)
          · refine J_mono (w_istore_n (ls' := [some (.ref y0), some (.int y1), some (.int q4.1)]) C (jd jdt_Mo_qSums 25 rfl) (by decide) rfl rfl) ?_
            refine J_mono (w_goto C (jd jdt_Mo_qSums 26 rfl) rfl) ?_
            exact J_sub (ih q4.1 q4.2) ⟨rfl, rfl, rfl, trivial⟩
        · exact J_some (fun hx => Wk_sb hx ⟨rfl, rfl, trivial⟩)
  refine J_seq (fun (q8 : SM) => Wk p l e R s m args below meth c G 3 Q 0 0 jN0 (jce G q8) 53 [some (.ref a0), some (.int (M.1 a0 93)), none] []) (J_sub (L15 a0 (M.1 a0 93) hp0 jfuel 1 (sI M a0 93 (M.1 a0 91))) ⟨rfl, rfl, rfl, trivial⟩) (fun q8 hq8 => ?_)
  have L53 : ∀ (y0 : Nat) (y1 : Int32) (hy0 : jkd y0 12) (n : Nat)  (M : SM), J (fun (q12 : SM) => Wk p l e R s m args below meth c G 3 Q 0 0 jN0 (jce G q12) 78 [some (.ref y0), some (.int y1), none] []) (lp_Mo_qSums_53 y0 n M) (Wk p l e R s m args below meth c G 3 Q 0 0 jN0 (jce G M) 53 [some (.ref y0), some (.int y1), none] []) := by
    intro y0 y1 hy0 n
    induction n with
    | zero => intro  M; exact J_none
    | succ n ih =>
      intro  M
      unfold lp_Mo_qSums_53
      refine J_mono (w_aload_n C (jd jdt_Mo_qSums 27 rfl) rfl) ?_
      refine J_mono (jg_Mo_218 C hy0 (jd jdt_Mo_qSums 28 rfl)) ?_
      refine J_br (w_if_ne (y := 0) C (jd jdt_Mo_qSums 29 rfl) rfl) (fun h9 => J_pos h9 ?_) (fun h9 => J_neg h9 ?_)
      · refine J_mono (w_aload_n C (jd jdt_Mo_qSums 30 rfl) rfl) ?_
        refine J_mono (jg_Mo_524 C hy0 (jd jdt_Mo_qSums 31 rfl)) ?_
        refine J_mono (w_aload_n C (jd jdt_Mo_qSums 32 rfl) rfl) ?_
        refine J_mono (jg_Mo_530 C hy0 (jd jdt_Mo_qSums 33 rfl)) ?_
        refine J_br (w_icmp_le C (jd jdt_Mo_qSums 34 rfl) rfl) (fun h10 => J_pos h10 ?_) (fun h10 => J_neg h10 ?_)
        · refine J_mono (w_aload_n C (jd jdt_Mo_qSums 35 rfl) rfl) ?_
          refine J_bind (fun q11 hq11 => ?_)
          refine J_mono (jc_Mo_536 C hy0 (C_Mo_qDrops l G F y0 hy0 M hq11) rfl (Nat.le_trans (Nat.le_of_ble_eq_true rfl : 2 + 1 ≤ 7) hD) (jd jdt_Mo_qSums 36 rfl)) ?_
          refine J_mono (w_goto C (jd jdt_Mo_qSums 37 rfl) rfl) ?_
          exact J_sub (ih q11) ⟨rfl, rfl, trivial⟩
        · exact J_some (fun hx => Wk_sb hx ⟨rfl, rfl, trivial⟩)
      · exact J_some (fun hx => Wk_sb hx ⟨rfl, rfl, trivial⟩)
  refine J_seq (fun (q12 : SM) => Wk p l e R s m args below meth c G 3 Q 0 0 jN0 (jce G q12) 78 [some (.ref a0), some (.int (M.1 a0 93)), none] []) (J_sub (L53 a0 (M.1 a0 93) hp0 jfuel q8) ⟨rfl, rfl, trivial⟩) (fun q12 hq12 => ?_)
  refine J_mono (w_aload_n C (jd jdt_Mo_qSums 38 rfl) rfl) ?_
  refine J_mono (w_iload_n C (jd jdt_Mo_qSums 39 rfl) rfl) ?_
  refine J_mono (jp_Mo_530 C F hp0 (jd jdt_Mo_qSums 40 rfl)) ?_
  exact J_some (fun hx => hR (sI q12 a0 93 (M.1 a0 93)) hx _ _ (jd jdt_Mo_qSums 41 rfl))
end
theorem C_Mo_qSums (l : Launch) (G : JG) (F : jF G = false) (a0 : Nat) (hp0 : jkd a0 12) (M : SM) {q : SM} (hf : f_Mo_qSums a0 M = some q) : jMet l jy_Mo_qSums jb_Mo_qSums 3 none 7 0 0 G [.ref a0] jN0 (jce G M) none jN0 (jce G q) :=
  j_met jo_Mo_qSums (by decide) (Nat.le_of_ble_eq_true rfl) (fun p e s m args below meth c C hr hm => K_Mo_qSums C F (Nat.le_refl _) a0 hp0 M (fun t => t = q) (fun M' hX pc ls hd => by cases hX; exact w_vret C hr hd) _ hf rfl)
def f_Mo_qFact (a0 : Nat) (M : SM) : Option SM := (f_Mo_takes a0 (jpf a0 77) M).bind fun q1 => if q1.1 = 0 then ((f_Mo_qSums a0 q1.2).bind fun q3 => if (q3.1 a0 5) = 0 then ((f_Mo_look a0 q3).bind fun q5 => if q5.1 = 60 then ((f_Mo_qSums a0 (sI q5.2 a0 2 ((q5.2.1 a0 2) + 1))).bind fun q7 => (if q5.1 = 60 then (some 7) else (if q5.1 = 62 then (some 8) else (some 9)) : Option (Int32)).bind fun q8 => (f_Mo_qCode a0 q8 q7).bind fun q11 => some q11) else (if q5.1 = 62 then ((f_Mo_qSums a0 (sI q5.2 a0 2 ((q5.2.1 a0 2) + 1))).bind fun q13 => (if q5.1 = 60 then (some 7) else (if q5.1 = 62 then (some 8) else (some 9)) : Option (Int32)).bind fun q14 => (f_Mo_qCode a0 q14 q13).bind fun q17 => some q17) else (if q5.1 = 61 then ((f_Mo_qSums a0 (sI q5.2 a0 2 ((q5.2.1 a0 2) + 1))).bind fun q19 => (if q5.1 = 60 then (some 7) else (if q5.1 = 62 then (some 8) else (some 9)) : Option (Int32)).bind fun q20 => (f_Mo_qCode a0 q20 q19).bind fun q23 => some q23) else ((f_Mo_fail a0 1 (q5.2.1 a0 2) q5.2).bind fun q24 => some q24)))) else (some q3)) else ((f_Mo_qCode a0 13 q1.2).bind fun q25 => some q25)
section
variable {p : Program} {l : Launch} {e : Env} {R : Room} {s : State} {m : MethodId} {args : Array Value} {below : List Frame} {meth : Method} {c : Code} {G : JG} {D : Nat} {Q : State → Prop}
set_option maxHeartbeats 4000000 in
set_option maxRecDepth 20000 in
theorem K_Mo_qFact (C : jCx p R s m args meth c G jb_Mo_qFact 2 D "SluicePitModel") (F : jF G = false) (hD : 8 ≤ D) (a0 : Nat) (hp0 : jkd a0 12) (M : SM) (X : SM → Prop) (hR : ∀ M', X M' → ∀ (pc : Nat) (ls : List (Option Value)), decode jb_Mo_qFact pc = .ok (.return_, 1) → Wk p l e R s m args below meth c G 2 Q 0 0 jN0 (jce G M') pc ls []) : J X (f_Mo_qFact a0 M) (Wk p l e R s m args below meth c G 2 Q 0 0 jN0 (jce G M) 0 [some (.ref a0), none] []) := by
  unfold f_Mo_qFact
  refine J_mono (w_aload_n C (jd jdt_Mo_qFact 0 rfl) rfl) ?_
  refine J_mono (w_aload_n C (jd jdt_Mo_qFact 1 rfl) rfl) ?_
  refine J_mono (jg_Mo_170 C hp0 (jd jdt_Mo_qFact 2 rfl)) ?_
  refine J_bind (fun q1 hq1 => ?_)
  refine J_mono (jc_Mo_245 C hp0 (C_Mo_takes l G F a0 (jpf a0 77) hp0 (jkf_12_77 hp0) M hq1) rfl (Nat.le_trans (Nat.le_of_ble_eq_true rfl : 3 + 1 ≤ 8) hD) (jd jdt_Mo_qFact 3 rfl)) ?_
  refine J_br (w_if_eq (y := 0) C (jd jdt_Mo_qFact 4 rfl) rfl) (fun h2 => J_pos h2 ?_) (fun h2 => J_neg h2 ?_)
  · refine J_mono (w_aload_n C (jd jdt_Mo_qFact 9 rfl) rfl) ?_
    refine J_bind (fun q3 hq3 => ?_)
    refine J_mono (jc_Mo_569 C hp0 (C_Mo_qSums l G F a0 hp0 q1.2 hq3) rfl (Nat.le_trans (Nat.le_of_ble_eq_true rfl : 7 + 1 ≤ 8) hD) (jd jdt_Mo_qFact 10 rfl)) ?_
    refine J_mono (w_aload_n C (jd jdt_Mo_qFact 11 rfl) rfl) ?_
    refine J_mono (jg_Mo_218 C hp0 (jd jdt_Mo_qFact 12 rfl)) ?_
    refine J_br (w_if_eq (y := 0) C (jd jdt_Mo_qFact 13 rfl) rfl) (fun h4 => J_pos h4 ?_) (fun h4 => J_neg h4 ?_)
    · refine J_mono (w_aload_n C (jd jdt_Mo_qFact 15 rfl) rfl) ?_
      refine J_bind (fun q5 hq5 => ?_)
      refine J_mono (jc_Mo_230 C hp0 (C_Mo_look l G F a0 hp0 q3 hq5) rfl (Nat.le_trans (Nat.le_of_ble_eq_true rfl : 1 + 1 ≤ 8) hD) (jd jdt_Mo_qFact 16 rfl)) ?_
      refine J_mono (w_istore_n (ls' := [some (.ref a0), some (.int q5.1)]) C (jd jdt_Mo_qFact 17 rfl) (by decide) rfl rfl) ?_
      refine J_mono (w_iload_n C (jd jdt_Mo_qFact 18 rfl) rfl) ?_
      refine J_mono (w_bipush_60 C (jd jdt_Mo_qFact 19 rfl)) ?_
      refine J_br (w_icmp_eq C (jd jdt_Mo_qFact 20 rfl) rfl) (fun h6 => J_pos h6 ?_) (fun h6 => J_neg h6 ?_)
      · refine J_mono (w_aload_n C (jd jdt_Mo_qFact 33 rfl) rfl) ?_
        refine J_mono (w_dup_r C (jd jdt_Mo_qFact 34 rfl)) ?_
        refine J_mono (jg_Mo_224 C hp0 (jd jdt_Mo_qFact 35 rfl)) ?_
        refine J_mono (w_iconst_1 C (jd jdt_Mo_qFact 36 rfl)) ?_
        refine J_mono (w_iadd C (jd jdt_Mo_qFact 37 rfl)) ?_
        refine J_mono (jp_Mo_224 C F hp0 (jd jdt_Mo_qFact 38 rfl)) ?_
        refine J_mono (w_aload_n C (jd jdt_Mo_qFact 39 rfl) rfl) ?_
        refine J_bind (fun q7 hq7 => ?_)
        refine J_mono (jc_Mo_569 C hp0 (C_Mo_qSums l G F a0 hp0 (sI q5.2 a0 2 ((q5.2.1 a0 2) + 1)) hq7) rfl (Nat.le_trans (Nat.le_of_ble_eq_true rfl : 7 + 1 ≤ 8) hD) (jd jdt_Mo_qFact 40 rfl)) ?_
        refine J_mono (w_aload_n C (jd jdt_Mo_qFact 41 rfl) rfl) ?_
        refine J_mono (w_iload_n C (jd jdt_Mo_qFact 42 rfl) rfl) ?_
        refine J_mono (w_bipush_60 C (jd jdt_Mo_qFact 43 rfl)) ?_
        refine J_seq (fun (q8 : Int32) => Wk p l e R s m args below meth c G 2 Q 0 0 jN0 (jce G q7) 102 [none, none] [.int q8, .ref a0]) ?_ (fun q8 hq8 => ?_)
        · refine J_br (w_icmp_ne C (jd jdt_Mo_qFact 44 rfl) rfl) (fun h9 => J_pos h9 ?_) (fun h9 => J_neg h9 ?_)
          · refine J_mono (w_bipush_7 C (jd jdt_Mo_qFact 45 rfl)) ?_
            refine J_mono (w_goto C (jd jdt_Mo_qFact 46 rfl) rfl) ?_
            exact J_some (fun hx => Wk_sb hx trivial)
          · refine J_mono (w_iload_n C (jd jdt_Mo_qFact 47 rfl) rfl) ?_
            refine J_mono (w_bipush_62 C (jd jdt_Mo_qFact 48 rfl)) ?_
            refine J_br (w_icmp_ne C (jd jdt_Mo_qFact 49 rfl) rfl) (fun h10 => J_pos h10 ?_) (fun h10 => J_neg h10 ?_)
            · refine J_mono (w_bipush_8 C (jd jdt_Mo_qFact 50 rfl)) ?_
              refine J_mono (w_goto C (jd jdt_Mo_qFact 51 rfl) rfl) ?_
              exact J_some (fun hx => Wk_sb hx trivial)
            · refine J_mono (w_bipush_9 C (jd jdt_Mo_qFact 52 rfl)) ?_
              exact J_some (fun hx => Wk_sb hx trivial)
        · refine J_bind (fun q11 hq11 => ?_)
          refine J_mono (jc_Mo_527 C hp0 (C_Mo_qCode l G F a0 q8 hp0 q7 hq11) rfl (Nat.le_trans (Nat.le_of_ble_eq_true rfl : 1 + 1 ≤ 8) hD) (jd jdt_Mo_qFact 53 rfl)) ?_
          exact J_some (fun hx => hR q11 hx _ _ (jd jdt_Mo_qFact 54 rfl))
      · refine J_mono (w_iload_n C (jd jdt_Mo_qFact 21 rfl) rfl) ?_
        refine J_mono (w_bipush_62 C (jd jdt_Mo_qFact 22 rfl)) ?_
        refine J_br (w_icmp_eq C (jd jdt_Mo_qFact 23 rfl) rfl) (fun h12 => J_pos h12 ?_) (fun h12 => J_neg h12 ?_)
        · refine J_mono (w_aload_n C (jd jdt_Mo_qFact 33 rfl) rfl) ?_
          refine J_mono (w_dup_r C (jd jdt_Mo_qFact 34 rfl)) ?_
          refine J_mono (jg_Mo_224 C hp0 (jd jdt_Mo_qFact 35 rfl)) ?_
          refine J_mono (w_iconst_1 C (jd jdt_Mo_qFact 36 rfl)) ?_
          refine J_mono (w_iadd C (jd jdt_Mo_qFact 37 rfl)) ?_
          refine J_mono (jp_Mo_224 C F hp0 (jd jdt_Mo_qFact 38 rfl)) ?_
          refine J_mono (w_aload_n C (jd jdt_Mo_qFact 39 rfl) rfl) ?_
          refine J_bind (fun q13 hq13 => ?_)
          refine J_mono (jc_Mo_569 C hp0 (C_Mo_qSums l G F a0 hp0 (sI q5.2 a0 2 ((q5.2.1 a0 2) + 1)) hq13) rfl (Nat.le_trans (Nat.le_of_ble_eq_true rfl : 7 + 1 ≤ 8) hD) (jd jdt_Mo_qFact 40 rfl)) ?_
          refine J_mono (w_aload_n C (jd jdt_Mo_qFact 41 rfl) rfl) ?_
          refine J_mono (w_iload_n C (jd jdt_Mo_qFact 42 rfl) rfl) ?_
          refine J_mono (w_bipush_60 C (jd jdt_Mo_qFact 43 rfl)) ?_
          refine J_seq (fun (q14 : Int32) => Wk p l e R s m args below meth c G 2 Q 0 0 jN0 (jce G q13) 102 [none, none] [.int q14, .ref a0]) ?_ (fun q14 hq14 => ?_)
          · refine J_br (w_icmp_ne C (jd jdt_Mo_qFact 44 rfl) rfl) (fun h15 => J_pos h15 ?_) (fun h15 => J_neg h15 ?_)
            · refine J_mono (w_bipush_7 C (jd jdt_Mo_qFact 45 rfl)) ?_
              refine J_mono (w_goto C (jd jdt_Mo_qFact 46 rfl) rfl) ?_
              exact J_some (fun hx => Wk_sb hx trivial)
            · refine J_mono (w_iload_n C (jd jdt_Mo_qFact 47 rfl) rfl) ?_
              refine J_mono (w_bipush_62 C (jd jdt_Mo_qFact 48 rfl)) ?_
              refine J_br (w_icmp_ne C (jd jdt_Mo_qFact 49 rfl) rfl) (fun h16 => J_pos h16 ?_) (fun h16 => J_neg h16 ?_)
              · refine J_mono (w_bipush_8 C (jd jdt_Mo_qFact 50 rfl)) ?_
                refine J_mono (w_goto C (jd jdt_Mo_qFact 51 rfl) rfl) ?_
                exact J_some (fun hx => Wk_sb hx trivial)
              · refine J_mono (w_bipush_9 C (jd jdt_Mo_qFact 52 rfl)) ?_
                exact J_some (fun hx => Wk_sb hx trivial)
          · refine J_bind (fun q17 hq17 => ?_)
            refine J_mono (jc_Mo_527 C hp0 (C_Mo_qCode l G F a0 q14 hp0 q13 hq17) rfl (Nat.le_trans (Nat.le_of_ble_eq_true rfl : 1 + 1 ≤ 8) hD) (jd jdt_Mo_qFact 53 rfl)) ?_
            exact J_some (fun hx => hR q17 hx _ _ (jd jdt_Mo_qFact 54 rfl))
        · refine J_mono (w_iload_n C (jd jdt_Mo_qFact 24 rfl) rfl) ?_
          refine J_mono (w_bipush_61 C (jd jdt_Mo_qFact 25 rfl)) ?_
          refine J_br (w_icmp_eq C (jd jdt_Mo_qFact 26 rfl) rfl) (fun h18 => J_pos h18 ?_) (fun h18 => J_neg h18 ?_)
          · refine J_mono (w_aload_n C (jd jdt_Mo_qFact 33 rfl) rfl) ?_
            refine J_mono (w_dup_r C (jd jdt_Mo_qFact 34 rfl)) ?_
            refine J_mono (jg_Mo_224 C hp0 (jd jdt_Mo_qFact 35 rfl)) ?_
            refine J_mono (w_iconst_1 C (jd jdt_Mo_qFact 36 rfl)) ?_
            refine J_mono (w_iadd C (jd jdt_Mo_qFact 37 rfl)) ?_
            refine J_mono (jp_Mo_224 C F hp0 (jd jdt_Mo_qFact 38 rfl)) ?_
            refine J_mono (w_aload_n C (jd jdt_Mo_qFact 39 rfl) rfl) ?_
            refine J_bind (fun q19 hq19 => ?_)
            refine J_mono (jc_Mo_569 C hp0 (C_Mo_qSums l G F a0 hp0 (sI q5.2 a0 2 ((q5.2.1 a0 2) + 1)) hq19) rfl (Nat.le_trans (Nat.le_of_ble_eq_true rfl : 7 + 1 ≤ 8) hD) (jd jdt_Mo_qFact 40 rfl)) ?_
            refine J_mono (w_aload_n C (jd jdt_Mo_qFact 41 rfl) rfl) ?_
            refine J_mono (w_iload_n C (jd jdt_Mo_qFact 42 rfl) rfl) ?_
            refine J_mono (w_bipush_60 C (jd jdt_Mo_qFact 43 rfl)) ?_
            refine J_seq (fun (q20 : Int32) => Wk p l e R s m args below meth c G 2 Q 0 0 jN0 (jce G q19) 102 [none, none] [.int q20, .ref a0]) ?_ (fun q20 hq20 => ?_)
            · refine J_br (w_icmp_ne C (jd jdt_Mo_qFact 44 rfl) rfl) (fun h21 => J_pos h21 ?_) (fun h21 => J_neg h21 ?_)
              · refine J_mono (w_bipush_7 C (jd jdt_Mo_qFact 45 rfl)) ?_
                refine J_mono (w_goto C (jd jdt_Mo_qFact 46 rfl) rfl) ?_
                exact J_some (fun hx => Wk_sb hx trivial)
              · refine J_mono (w_iload_n C (jd jdt_Mo_qFact 47 rfl) rfl) ?_
                refine J_mono (w_bipush_62 C (jd jdt_Mo_qFact 48 rfl)) ?_
                refine J_br (w_icmp_ne C (jd jdt_Mo_qFact 49 rfl) rfl) (fun h22 => J_pos h22 ?_) (fun h22 => J_neg h22 ?_)
                · refine J_mono (w_bipush_8 C (jd jdt_Mo_qFact 50 rfl)) ?_
                  refine J_mono (w_goto C (jd jdt_Mo_qFact 51 rfl) rfl) ?_
                  exact J_some (fun hx => Wk_sb hx trivial)
                · refine J_mono (w_bipush_9 C (jd jdt_Mo_qFact 52 rfl)) ?_
                  exact J_some (fun hx => Wk_sb hx trivial)
            · refine J_bind (fun q23 hq23 => ?_)
              refine J_mono (jc_Mo_527 C hp0 (C_Mo_qCode l G F a0 q20 hp0 q19 hq23) rfl (Nat.le_trans (Nat.le_of_ble_eq_true rfl : 1 + 1 ≤ 8) hD) (jd jdt_Mo_qFact 53 rfl)) ?_
              exact J_some (fun hx => hR q23 hx _ _ (jd jdt_Mo_qFact 54 rfl))
          · refine J_mono (w_aload_n C (jd jdt_Mo_qFact 27 rfl) rfl) ?_
            refine J_mono (w_iconst_1 C (jd jdt_Mo_qFact 28 rfl)) ?_
            refine J_mono (w_aload_n C (jd jdt_Mo_qFact 29 rfl) rfl) ?_
            refine J_mono (jg_Mo_224 C hp0 (jd jdt_Mo_qFact 30 rfl)) ?_
            refine J_bind (fun q24 hq24 => ?_)
            refine J_mono (jc_Mo_248 C hp0 (C_Mo_fail l G F a0 1 (q5.2.1 a0 2) hp0 q5.2 hq24) rfl (Nat.le_trans (Nat.le_of_ble_eq_true rfl : 1 + 1 ≤ 8) hD) (jd jdt_Mo_qFact 31 rfl)) ?_
            exact J_some (fun hx => hR q24 hx _ _ (jd jdt_Mo_qFact 32 rfl))
    · exact J_some (fun hx => hR q3 hx _ _ (jd jdt_Mo_qFact 14 rfl))
  · refine J_mono (w_aload_n C (jd jdt_Mo_qFact 5 rfl) rfl) ?_
    refine J_mono (w_bipush_13 C (jd jdt_Mo_qFact 6 rfl)) ?_
    refine J_bind (fun q25 hq25 => ?_)
    refine J_mono (jc_Mo_527 C hp0 (C_Mo_qCode l G F a0 13 hp0 q1.2 hq25) rfl (Nat.le_trans (Nat.le_of_ble_eq_true rfl : 1 + 1 ≤ 8) hD) (jd jdt_Mo_qFact 7 rfl)) ?_
    exact J_some (fun hx => hR q25 hx _ _ (jd jdt_Mo_qFact 8 rfl))
end
theorem C_Mo_qFact (l : Launch) (G : JG) (F : jF G = false) (a0 : Nat) (hp0 : jkd a0 12) (M : SM) {q : SM} (hf : f_Mo_qFact a0 M = some q) : jMet l jy_Mo_qFact jb_Mo_qFact 2 none 8 0 0 G [.ref a0] jN0 (jce G M) none jN0 (jce G q) :=
  j_met jo_Mo_qFact (by decide) (Nat.le_of_ble_eq_true rfl) (fun p e s m args below meth c C hr hm => K_Mo_qFact C F (Nat.le_refl _) a0 hp0 M (fun t => t = q) (fun M' hX pc ls hd => by cases hX; exact w_vret C hr hd) _ hf rfl)
def lp_Mo_qDropsNots_0 (y0 : Nat) : Nat → SM → Option (SM)
  | 0, _ => none
  | n + 1, M => if (M.1 y0 5) = 0 then ((f_Mo_qIsOn y0 12 M).bind fun q2 => if q2 = 0 then (some M) else ((f_Mo_qDrops y0 (sI M y0 92 ((M.1 y0 92) - 1))).bind fun q4 => lp_Mo_qDropsNots_0 y0 n q4)) else (some M)
def f_Mo_qDropsNots (a0 : Nat) (M : SM) : Option SM := (lp_Mo_qDropsNots_0 a0 jfuel M).bind fun q5 => some q5
section
variable {p : Program} {l : Launch} {e : Env} {R : Room} {s : State} {m : MethodId} {args : Array Value} {below : List Frame} {meth : Method} {c : Code} {G : JG} {D : Nat} {Q : State → Prop}
set_option maxHeartbeats 4000000 in
set_option maxRecDepth 20000 in
theorem K_Mo_qDropsNots (C : jCx p R s m args meth c G jb_Mo_qDropsNots 1 D "SluicePitModel") (F : jF G = false) (hD : 3 ≤ D) (a0 : Nat) (hp0 : jkd a0 12) (M : SM) (X : SM → Prop) (hR : ∀ M', X M' → ∀ (pc : Nat) (ls : List (Option Value)), decode jb_Mo_qDropsNots pc = .ok (.return_, 1) → Wk p l e R s m args below meth c G 1 Q 0 0 jN0 (jce G M') pc ls []) : J X (f_Mo_qDropsNots a0 M) (Wk p l e R s m args below meth c G 1 Q 0 0 jN0 (jce G M) 0 [some (.ref a0)] []) := by
  unfold f_Mo_qDropsNots
  have L0 : ∀ (y0 : Nat) (hy0 : jkd y0 12) (n : Nat)  (M : SM), J (fun (q5 : SM) => Wk p l e R s m args below meth c G 1 Q 0 0 jN0 (jce G q5) 33 [none] []) (lp_Mo_qDropsNots_0 y0 n M) (Wk p l e R s m args below meth c G 1 Q 0 0 jN0 (jce G M) 0 [some (.ref y0)] []) := by
    intro y0 hy0 n
    induction n with
    | zero => intro  M; exact J_none
    | succ n ih =>
      intro  M
      unfold lp_Mo_qDropsNots_0
      refine J_mono (w_aload_n C (jd jdt_Mo_qDropsNots 0 rfl) rfl) ?_
      refine J_mono (jg_Mo_218 C hy0 (jd jdt_Mo_qDropsNots 1 rfl)) ?_
      refine J_br (w_if_ne (y := 0) C (jd jdt_Mo_qDropsNots 2 rfl) rfl) (fun h1 => J_pos h1 ?_) (fun h1 => J_neg h1 ?_)
      · refine J_mono (w_aload_n C (jd jdt_Mo_qDropsNots 3 rfl) rfl) ?_
        refine J_mono (w_bipush_12 C (jd jdt_Mo_qDropsNots 4 rfl)) ?_
        refine J_bind (fun q2 hq2 => ?_)
        refine J_mono (jc_Mo_560 C hy0 (C_Mo_qIsOn l G F y0 12 hy0 M hq2) rfl (Nat.le_trans (Nat.le_of_ble_eq_true rfl : 1 + 1 ≤ 3) hD) (jd jdt_Mo_qDropsNots 5 rfl)) ?_
        refine J_br (w_if_eq (y := 0) C (jd jdt_Mo_qDropsNots 6 rfl) rfl) (fun h3 => J_pos h3 ?_) (fun h3 => J_neg h3 ?_)
        · exact J_some (fun hx => Wk_sb hx trivial)
        · refine J_mono (w_aload_n C (jd jdt_Mo_qDropsNots 7 rfl) rfl) ?_
          refine J_mono (w_dup_r C (jd jdt_Mo_qDropsNots 8 rfl)) ?_
          refine J_mono (jg_Mo_521 C hy0 (jd jdt_Mo_qDropsNots 9 rfl)) ?_
          refine J_mono (w_iconst_1 C (jd jdt_Mo_qDropsNots 10 rfl)) ?_
          refine J_mono (w_isub C (jd jdt_Mo_qDropsNots 11 rfl)) ?_
          refine J_mono (jp_Mo_521 C F hy0 (jd jdt_Mo_qDropsNots 12 rfl)) ?_
          refine J_mono (w_aload_n C (jd jdt_Mo_qDropsNots 13 rfl) rfl) ?_
          refine J_bind (fun q4 hq4 => ?_)
          refine J_mono (jc_Mo_536 C hy0 (C_Mo_qDrops l G F y0 hy0 (sI M y0 92 ((M.1 y0 92) - 1)) hq4) rfl (Nat.le_trans (Nat.le_of_ble_eq_true rfl : 2 + 1 ≤ 3) hD) (jd jdt_Mo_qDropsNots 14 rfl)) ?_
          refine J_mono (w_goto C (jd jdt_Mo_qDropsNots 15 rfl) rfl) ?_
          exact J_sub (ih q4) ⟨rfl, trivial⟩
      · exact J_some (fun hx => Wk_sb hx trivial)
  refine J_seq (fun (q5 : SM) => Wk p l e R s m args below meth c G 1 Q 0 0 jN0 (jce G q5) 33 [none] []) (J_sub (L0 a0 hp0 jfuel M) ⟨rfl, trivial⟩) (fun q5 hq5 => ?_)
  exact J_some (fun hx => hR q5 hx _ _ (jd jdt_Mo_qDropsNots 16 rfl))
end
theorem C_Mo_qDropsNots (l : Launch) (G : JG) (F : jF G = false) (a0 : Nat) (hp0 : jkd a0 12) (M : SM) {q : SM} (hf : f_Mo_qDropsNots a0 M = some q) : jMet l jy_Mo_qDropsNots jb_Mo_qDropsNots 1 none 3 0 0 G [.ref a0] jN0 (jce G M) none jN0 (jce G q) :=
  j_met jo_Mo_qDropsNots (by decide) (Nat.le_of_ble_eq_true rfl) (fun p e s m args below meth c C hr hm => K_Mo_qDropsNots C F (Nat.le_refl _) a0 hp0 M (fun t => t = q) (fun M' hX pc ls hd => by cases hX; exact w_vret C hr hd) _ hf rfl)
def lp_Mo_qHasSquare_2 (y0 : Nat) (M : SM) : Nat → Int32 → Option ((Unit) ⊕ Int32)
  | 0, _ => none
  | n + 1, x1 => if x1 < (M.1 y0 91) then ((aI M (jpf y0 90) x1).bind fun v2 => if v2 = 25 then (some (.inr 1)) else (lp_Mo_qHasSquare_2 y0 M n (x1 + 1))) else (some (.inl ()))
def f_Mo_qHasSquare (a0 : Nat) (M : SM) : Option Int32 := jsb (lp_Mo_qHasSquare_2 a0 M jfuel 0) id fun q4 => some 0
section
variable {p : Program} {l : Launch} {e : Env} {R : Room} {s : State} {m : MethodId} {args : Array Value} {below : List Frame} {meth : Method} {c : Code} {G : JG} {D : Nat} {Q : State → Prop}
set_option maxHeartbeats 4000000 in
set_option maxRecDepth 20000 in
theorem K_Mo_qHasSquare (C : jCx p R s m args meth c G jb_Mo_qHasSquare 2 D "SluicePitModel") (F : jF G = false) (hD : 1 ≤ D) (a0 : Nat) (hp0 : jkd a0 12) (M : SM) (X : Int32 → Prop) (hR : ∀ v, X v → ∀ (pc : Nat) (ls : List (Option Value)), decode jb_Mo_qHasSquare pc = .ok (.ireturn, 1) → narrow FieldType.boolean (.int v) = .int v → Wk p l e R s m args below meth c G 2 Q 0 0 jN0 (jce G M) pc ls [.int v]) : J X (f_Mo_qHasSquare a0 M) (Wk p l e R s m args below meth c G 2 Q 0 0 jN0 (jce G M) 0 [some (.ref a0), none] []) := by
  unfold f_Mo_qHasSquare
  refine J_mono (w_iconst_0 C (jd jdt_Mo_qHasSquare 0 rfl)) ?_
  refine J_mono (w_istore_n (ls' := [some (.ref a0), some (.int 0)]) C (jd jdt_Mo_qHasSquare 1 rfl) (by decide) rfl rfl) ?_
  have L2 : ∀ (y0 : Nat) (hy0 : jkd y0 12) (n : Nat) (x1 : Int32), J (Sum.elim (fun (q4 : Unit) => Wk p l e R s m args below meth c G 2 Q 0 0 jN0 (jce G M) 29 [none, none] []) X) (lp_Mo_qHasSquare_2 y0 M n x1) (Wk p l e R s m args below meth c G 2 Q 0 0 jN0 (jce G M) 2 [some (.ref y0), some (.int x1)] []) := by
    intro y0 hy0 n
    induction n with
    | zero => intro x1; exact J_none
    | succ n ih =>
      intro x1
      unfold lp_Mo_qHasSquare_2
      refine J_mono (w_iload_n C (jd jdt_Mo_qHasSquare 2 rfl) rfl) ?_
      refine J_mono (w_aload_n C (jd jdt_Mo_qHasSquare 3 rfl) rfl) ?_
      refine J_mono (jg_Mo_524 C hy0 (jd jdt_Mo_qHasSquare 4 rfl)) ?_
      refine J_br (w_icmp_ge C (jd jdt_Mo_qHasSquare 5 rfl) rfl) (fun h1 => J_pos h1 ?_) (fun h1 => J_neg h1 ?_)
      · refine J_mono (w_aload_n C (jd jdt_Mo_qHasSquare 6 rfl) rfl) ?_
        refine J_mono (jg_Mo_206 C hy0 (jd jdt_Mo_qHasSquare 7 rfl)) ?_
        refine J_mono (w_iload_n C (jd jdt_Mo_qHasSquare 8 rfl) rfl) ?_
        refine J_bind (fun v2 hv2 => ?_)
        refine J_mono (w_iald C (jkf_12_90 hy0) hv2 (jd jdt_Mo_qHasSquare 9 rfl)) ?_
        refine J_mono (w_bipush_25 C (jd jdt_Mo_qHasSquare 10 rfl)) ?_
        refine J_br (w_icmp_ne C (jd jdt_Mo_qHasSquare 11 rfl) rfl) (fun h3 => J_pos h3 ?_) (fun h3 => J_neg h3 ?_)
        · refine J_mono (w_iconst_1 C (jd jdt_Mo_qHasSquare 12 rfl)) ?_
          exact J_some (fun hx => hR 1 hx _ _ (jd jdt_Mo_qHasSquare 13 rfl) rfl)
        · refine J_mono (w_iinc (v := x1 + 1) (ls' := [some (.ref y0), some (.int (x1 + 1))]) C (jd jdt_Mo_qHasSquare 14 rfl) rfl rfl (by decide) rfl rfl) ?_
          refine J_mono (w_goto C (jd jdt_Mo_qHasSquare 15 rfl) rfl) ?_
          exact J_sub (ih (x1 + 1)) ⟨rfl, rfl, trivial⟩
      · exact J_some (fun hx => Wk_sb hx trivial)
  refine J_sb (fun (q4 : Unit) => Wk p l e R s m args below meth c G 2 Q 0 0 jN0 (jce G M) 29 [none, none] []) (J_sub (L2 a0 hp0 jfuel 0) ⟨rfl, rfl, trivial⟩) (fun q4 => ?_)
  refine J_mono (w_iconst_0 C (jd jdt_Mo_qHasSquare 16 rfl)) ?_
  exact J_some (fun hx => hR 0 hx _ _ (jd jdt_Mo_qHasSquare 17 rfl) rfl)
end
theorem C_Mo_qHasSquare (l : Launch) (G : JG) (F : jF G = false) (a0 : Nat) (hp0 : jkd a0 12) (M : SM) {q : Int32} (hf : f_Mo_qHasSquare a0 M = some q) : jMet l jy_Mo_qHasSquare jb_Mo_qHasSquare 2 (some FieldType.boolean) 1 0 0 G [.ref a0] jN0 (jce G M) (some (.int q)) jN0 (jce G M) :=
  j_met jo_Mo_qHasSquare (by decide) (Nat.le_of_ble_eq_true rfl) (fun p e s m args below meth c C hr hm => K_Mo_qHasSquare C F (Nat.le_refl _) a0 hp0 M (fun t => t = q) (fun v hX pc ls hd hn => by cases hX; exact w_iret C hr hn hd) _ hf rfl)
def lp_Mo_qGoesOnTest_33 (y0 : Nat) : Nat → SM → Option (SM)
  | 0, _ => none
  | n + 1, M => (f_Mo_qIsOn y0 25 M).bind fun q6 => if q6 = 0 then ((f_Mo_qDrops y0 M).bind fun q8 => lp_Mo_qGoesOnTest_33 y0 n q8) else (some M)
def lp_Mo_qGoesOnTest_0 (y0 : Nat) : Nat → SM → Option (SM)
  | 0, _ => none
  | n + 1, M => if (M.1 y0 5) = 0 then ((f_Mo_look y0 M).bind fun q2 => if q2.1 = 93 then ((f_Mo_qHasSquare y0 q2.2).bind fun q4 => if q4 = 0 then (some q2.2) else ((lp_Mo_qGoesOnTest_33 y0 jfuel (sI q2.2 y0 2 ((q2.2.1 y0 2) + 1))).bind fun q9 => (f_Mo_qDropsNots y0 (sI (sI q9 y0 91 ((q9.1 y0 91) - 1)) y0 92 (((sI q9 y0 91 ((q9.1 y0 91) - 1)).1 y0 92) - 1))).bind fun q10 => lp_Mo_qGoesOnTest_0 y0 n q10)) else (some q2.2)) else (some M)
def lp_Mo_qGoesOnTest_137 (y0 : Nat) : Nat → SM → Option (SM)
  | 0, _ => none
  | n + 1, M => (f_Mo_qIsOn y0 10 M).bind fun q20 => if q20 = 0 then ((f_Mo_qIsOn y0 11 M).bind fun q22 => if q22 = 0 then (some M) else ((f_Mo_qDrops y0 M).bind fun q24 => lp_Mo_qGoesOnTest_137 y0 n q24)) else ((f_Mo_qDrops y0 M).bind fun q25 => lp_Mo_qGoesOnTest_137 y0 n q25)
def lp_Mo_qGoesOnTest_87 (y0 : Nat) : Nat → SM → Option (SM)
  | 0, _ => none
  | n + 1, M => (f_Mo_qIsOn y0 10 M).bind fun q28 => if q28 = 0 then (some M) else ((f_Mo_qDrops y0 M).bind fun q30 => lp_Mo_qGoesOnTest_87 y0 n q30)
def f_Mo_qGoesOnTest (a0 : Nat) (M : SM) : Option (Int32 × SM) := (lp_Mo_qGoesOnTest_0 a0 jfuel M).bind fun q11 => (f_Mo_takes a0 (jpf a0 75) q11).bind fun q12 => if q12.1 = 0 then ((f_Mo_takes a0 (jpf a0 76) q12.2).bind fun q14 => if q14.1 = 0 then (if (q14.2.1 a0 5) = 0 then ((f_Mo_qHasSquare a0 q14.2).bind fun q17 => if q17 = 0 then (some (0, q14.2)) else ((f_Mo_fail a0 1 (q14.2.1 a0 2) q14.2).bind fun q19 => some (0, q19))) else (some (0, q14.2))) else ((lp_Mo_qGoesOnTest_137 a0 jfuel q14.2).bind fun q26 => (aS q26 (jpf a0 90) (q26.1 a0 91) 11).bind fun M27 => some (1, sI M27 a0 91 ((M27.1 a0 91) + 1)))) else ((lp_Mo_qGoesOnTest_87 a0 jfuel q12.2).bind fun q31 => (aS q31 (jpf a0 90) (q31.1 a0 91) 10).bind fun M32 => some (1, sI M32 a0 91 ((M32.1 a0 91) + 1)))
section
variable {p : Program} {l : Launch} {e : Env} {R : Room} {s : State} {m : MethodId} {args : Array Value} {below : List Frame} {meth : Method} {c : Code} {G : JG} {D : Nat} {Q : State → Prop}
set_option maxHeartbeats 4000000 in
set_option maxRecDepth 20000 in
theorem K_Mo_qGoesOnTest (C : jCx p R s m args meth c G jb_Mo_qGoesOnTest 1 D "SluicePitModel") (F : jF G = false) (hD : 4 ≤ D) (a0 : Nat) (hp0 : jkd a0 12) (M : SM) (X : (Int32 × SM) → Prop) (hR : ∀ v M', X (v, M') → ∀ (pc : Nat) (ls : List (Option Value)), decode jb_Mo_qGoesOnTest pc = .ok (.ireturn, 1) → narrow FieldType.boolean (.int v) = .int v → Wk p l e R s m args below meth c G 1 Q 0 0 jN0 (jce G M') pc ls [.int v]) : J X (f_Mo_qGoesOnTest a0 M) (Wk p l e R s m args below meth c G 1 Q 0 0 jN0 (jce G M) 0 [some (.ref a0)] []) := by
  unfold f_Mo_qGoesOnTest
  have L0 : ∀ (y0 : Nat) (hy0 : jkd y0 12) (n : Nat)  (M : SM), J (fun (q11 : SM) => Wk p l e R s m args below meth c G 1 Q 0 0 jN0 (jce G q11) 76 [some (.ref y0)] []) (lp_Mo_qGoesOnTest_0 y0 n M) (Wk p l e R s m args below meth c G 1 Q 0 0 jN0 (jce G M) 0 [some (.ref y0)] []) := by
    intro y0 hy0 n
    induction n with
    | zero => intro  M; exact J_none
    | succ n ih =>
      intro  M
      unfold lp_Mo_qGoesOnTest_0
      refine J_mono (w_aload_n C (jd jdt_Mo_qGoesOnTest 0 rfl) rfl) ?_
      refine J_mono (jg_Mo_218 C hy0 (jd jdt_Mo_qGoesOnTest 1 rfl)) ?_
      refine J_br (w_if_ne (y := 0) C (jd jdt_Mo_qGoesOnTest 2 rfl) rfl) (fun h1 => J_pos h1 ?_) (fun h1 => J_neg h1 ?_)
      · refine J_mono (w_aload_n C (jd jdt_Mo_qGoesOnTest 3 rfl) rfl) ?_
        refine J_bind (fun q2 hq2 => ?_)
        refine J_mono (jc_Mo_230 C hy0 (C_Mo_look l G F y0 hy0 M hq2) rfl (Nat.le_trans (Nat.le_of_ble_eq_true rfl : 1 + 1 ≤ 4) hD) (jd jdt_Mo_qGoesOnTest 4 rfl)) ?_
        refine J_mono (w_bipush_93 C (jd jdt_Mo_qGoesOnTest 5 rfl)) ?_
        refine J_br (w_icmp_ne C (jd jdt_Mo_qGoesOnTest 6 rfl) rfl) (fun h3 => J_pos h3 ?_) (fun h3 => J_neg h3 ?_)
        · refine J_mono (w_aload_n C (jd jdt_Mo_qGoesOnTest 7 rfl) rfl) ?_
          refine J_bind (fun q4 hq4 => ?_)
          refine J_mono (jc_Mo_581 C hy0 (C_Mo_qHasSquare l G F y0 hy0 q2.2 hq4) rfl (Nat.le_trans (Nat.le_of_ble_eq_true rfl : 1 + 1 ≤ 4) hD) (jd jdt_Mo_qGoesOnTest 8 rfl)) ?_
          refine J_br (w_if_eq (y := 0) C (jd jdt_Mo_qGoesOnTest 9 rfl) rfl) (fun h5 => J_pos h5 ?_) (fun h5 => J_neg h5 ?_)
          · exact J_some (fun hx => Wk_sb hx ⟨rfl, trivial⟩)
          · refine J_mono (w_aload_n C (jd jdt_Mo_qGoesOnTest 10 rfl) rfl) ?_
            refine J_mono (w_dup_r C (jd jdt_Mo_qGoesOnTest 11 rfl)) ?_
            refine J_mono (jg_Mo_224 C hy0 (jd jdt_Mo_qGoesOnTest 12 rfl)) ?_
            refine J_mono (w_iconst_1 C (jd jdt_Mo_qGoesOnTest 13 rfl)) ?_
            refine J_mono (w_iadd C (jd jdt_Mo_qGoesOnTest 14 rfl)) ?_
            refine J_mono (jp_Mo_224 C F hy0 (jd jdt_Mo_qGoesOnTest 15 rfl)) ?_
            have L33 : ∀ (y0 : Nat) (hy0 : jkd y0 12) (n : Nat)  (M : SM), J (fun (q9 : SM) => Wk p l e R s m args below meth c G 1 Q 0 0 jN0 (jce G q9) 49 [some (.ref y0)] []) (lp_Mo_qGoesOnTest_33 y0 n M) (Wk p l e R s m args below meth c G 1 Q 0 0 jN0 (jce G M) 33 [some (.ref y0)] []) := by
              intro y0 hy0 n
              induction n with
              | zero => intro  M; exact J_none
              | succ n ih =>
                intro  M
                unfold lp_Mo_qGoesOnTest_33
                refine J_mono (w_aload_n C (jd jdt_Mo_qGoesOnTest 16 rfl) rfl) ?_
                refine J_mono (w_bipush_25 C (jd jdt_Mo_qGoesOnTest 17 rfl)) ?_
                refine J_bind (fun q6 hq6 => ?_)
                refine J_mono (jc_Mo_560 C hy0 (C_Mo_qIsOn l G F y0 25 hy0 M hq6) rfl (Nat.le_trans (Nat.le_of_ble_eq_true rfl : 1 + 1 ≤ 4) hD) (jd jdt_Mo_qGoesOnTest 18 rfl)) ?_
                refine J_br (w_if_ne (y := 0) C (jd jdt_Mo_qGoesOnTest 19 rfl) rfl) (fun h7 => J_pos h7 ?_) (fun h7 => J_neg h7 ?_)
                · refine J_mono (w_aload_n C (jd jdt_Mo_qGoesOnTest 20 rfl) rfl) ?_
                  refine J_bind (fun q8 hq8 => ?_)
                  refine J_mono (jc_Mo_536 C hy0 (C_Mo_qDrops l G F y0 hy0 M hq8) rfl (Nat.le_trans (Nat.le_of_ble_eq_true rfl : 2 + 1 ≤ 4) hD) (jd jdt_Mo_qGoesOnTest 21 rfl)) ?_
                  refine J_mono (w_goto C (jd jdt_Mo_qGoesOnTest 22 rfl) rfl) ?_
                  exact J_sub (ih q8) ⟨rfl, trivial⟩
                · exact J_some (fun hx => Wk_sb hx ⟨rfl, trivial⟩)
            refine J_seq (fun (q9 : SM) => Wk p l e R s m args below meth c G 1 Q 0 0 jN0 (jce G q9) 49 [some (.ref y0)] []) (J_sub (L33 y0 hy0 jfuel (sI q2.2 y0 2 ((q2.2.1 y0 2) + 1))) ⟨rfl, trivial⟩) (fun q9 hq9 => ?_)
            refine J_mono (w_aload_n C (jd jdt_Mo_qGoesOnTest 23 rfl) rfl) ?_
            refine J_mono (w_dup_r C (jd jdt_Mo_qGoesOnTest 24 rfl)) ?_
            refine J_mono (jg_Mo_524 C hy0 (jd jdt_Mo_qGoesOnTest 25 rfl)) ?_
            refine J_mono (w_iconst_1 C (jd jdt_Mo_qGoesOnTest 26 rfl)) ?_
            refine J_mono (w_isub C (jd jdt_Mo_qGoesOnTest 27 rfl)) ?_
            refine J_mono (jp_Mo_524 C F hy0 (jd jdt_Mo_qGoesOnTest 28 rfl)) ?_
            refine J_mono (w_aload_n C (jd jdt_Mo_qGoesOnTest 29 rfl) rfl) ?_
            refine J_mono (w_dup_r C (jd jdt_Mo_qGoesOnTest 30 rfl)) ?_
            refine J_mono (jg_Mo_521 C hy0 (jd jdt_Mo_qGoesOnTest 31 rfl)) ?_
            refine J_mono (w_iconst_1 C (jd jdt_Mo_qGoesOnTest 32 rfl)) ?_
            refine J_mono (w_isub C (jd jdt_Mo_qGoesOnTest 33 rfl)) ?_
            refine J_mono (jp_Mo_521 C F hy0 (jd jdt_Mo_qGoesOnTest 34 rfl)) ?_
            refine J_mono (w_aload_n C (jd jdt_Mo_qGoesOnTest 35 rfl) rfl) ?_
            refine J_bind (fun q10 hq10 => ?_)
            refine J_mono (jc_Mo_575 C hy0 (C_Mo_qDropsNots l G F y0 hy0 (sI (sI q9 y0 91 ((q9.1 y0 91) - 1)) y0 92 (((sI q9 y0 91 ((q9.1 y0 91) - 1)).1 y0 92) - 1)) hq10) rfl (Nat.le_trans (Nat.le_of_ble_eq_true rfl : 3 + 1 ≤ 4) hD) (jd jdt_Mo_qGoesOnTest 36 rfl)) ?_
            refine J_mono (w_goto C (jd jdt_Mo_qGoesOnTest 37 rfl) rfl) ?_
            exact J_sub (ih q10) ⟨rfl, trivial⟩
        · exact J_some (fun hx => Wk_sb hx ⟨rfl, trivial⟩)
      · exact J_some (fun hx => Wk_sb hx ⟨rfl, trivial⟩)
  refine J_seq (fun (q11 : SM) => Wk p l e R s m args below meth c G 1 Q 0 0 jN0 (jce G q11) 76 [some (.ref a0)] []) (J_sub (L0 a0 hp0 jfuel M) ⟨rfl, trivial⟩) (fun q11 hq11 => ?_)
  refine J_mono (w_aload_n C (jd jdt_Mo_qGoesOnTest 38 rfl) rfl) ?_
  refine J_mono (w_aload_n C (jd jdt_Mo_qGoesOnTest 39 rfl) rfl) ?_
  refine J_mono (jg_Mo_164 C hp0 (jd jdt_Mo_qGoesOnTest 40 rfl)) ?_
  refine J_bind (fun q12 hq12 => ?_)
  refine J_mono (jc_Mo_245 C hp0 (C_Mo_takes l G F a0 (jpf a0 75) hp0 (jkf_12_75 hp0) q11 hq12) rfl (Nat.le_trans (Nat.le_of_ble_eq_true rfl : 3 + 1 ≤ 4) hD) (jd jdt_Mo_qGoesOnTest 41 rfl)) ?_
  refine J_br (w_if_eq (y := 0) C (jd jdt_Mo_qGoesOnTest 42 rfl) rfl) (fun h13 => J_pos h13 ?_) (fun h13 => J_neg h13 ?_)
  · refine J_mono (w_aload_n C (jd jdt_Mo_qGoesOnTest 64 rfl) rfl) ?_
    refine J_mono (w_aload_n C (jd jdt_Mo_qGoesOnTest 65 rfl) rfl) ?_
    refine J_mono (jg_Mo_167 C hp0 (jd jdt_Mo_qGoesOnTest 66 rfl)) ?_
    refine J_bind (fun q14 hq14 => ?_)
    refine J_mono (jc_Mo_245 C hp0 (C_Mo_takes l G F a0 (jpf a0 76) hp0 (jkf_12_76 hp0) q12.2 hq14) rfl (Nat.le_trans (Nat.le_of_ble_eq_true rfl : 3 + 1 ≤ 4) hD) (jd jdt_Mo_qGoesOnTest 67 rfl)) ?_
    refine J_br (w_if_eq (y := 0) C (jd jdt_Mo_qGoesOnTest 68 rfl) rfl) (fun h15 => J_pos h15 ?_) (fun h15 => J_neg h15 ?_)
    · refine J_mono (w_aload_n C (jd jdt_Mo_qGoesOnTest 94 rfl) rfl) ?_
      refine J_mono (jg_Mo_218 C hp0 (jd jdt_Mo_qGoesOnTest 95 rfl)) ?_
      refine J_br (w_if_ne (y := 0) C (jd jdt_Mo_qGoesOnTest 96 rfl) rfl) (fun h16 => J_pos h16 ?_) (fun h16 => J_neg h16 ?_)
      · refine J_mono (w_aload_n C (jd jdt_Mo_qGoesOnTest 97 rfl) rfl) ?_
        refine J_bind (fun q17 hq17 => ?_)
        refine J_mono (jc_Mo_581 C hp0 (C_Mo_qHasSquare l G F a0 hp0 q14.2 hq17) rfl (Nat.le_trans (Nat.le_of_ble_eq_true rfl : 1 + 1 ≤ 4) hD) (jd jdt_Mo_qGoesOnTest 98 rfl)) ?_
        refine J_br (w_if_eq (y := 0) C (jd jdt_Mo_qGoesOnTest 99 rfl) rfl) (fun h18 => J_pos h18 ?_) (fun h18 => J_neg h18 ?_)
        · refine J_mono (w_iconst_0 C (jd jdt_Mo_qGoesOnTest 105 rfl)) ?_
          exact J_some (fun hx => hR 0 q14.2 hx _ _ (jd jdt_Mo_qGoesOnTest 106 rfl) rfl)
        · refine J_mono (w_aload_n C (jd jdt_Mo_qGoesOnTest 100 rfl) rfl) ?_
          refine J_mono (w_iconst_1 C (jd jdt_Mo_qGoesOnTest 101 rfl)) ?_
          refine J_mono (w_aload_n C (jd jdt_Mo_qGoesOnTest 102 rfl) rfl) ?_
          refine J_mono (jg_Mo_224 C hp0 (jd jdt_Mo_qGoesOnTest 103 rfl)) ?_
          refine J_bind (fun q19 hq19 => ?_)
          refine J_mono (jc_Mo_248 C hp0 (C_Mo_fail l G F a0 1 (q14.2.1 a0 2) hp0 q14.2 hq19) rfl (Nat.le_trans (Nat.le_of_ble_eq_true rfl : 1 + 1 ≤ 4) hD) (jd jdt_Mo_qGoesOnTest 104 rfl)) ?_
          refine J_mono (w_iconst_0 C (jd jdt_Mo_qGoesOnTest 105 rfl)) ?_
          exact J_some (fun hx => hR 0 q19 hx _ _ (jd jdt_Mo_qGoesOnTest 106 rfl) rfl)
      · refine J_mono (w_iconst_0 C (jd jdt_Mo_qGoesOnTest 105 rfl)) ?_
        exact J_some (fun hx => hR 0 q14.2 hx _ _ (jd jdt_Mo_qGoesOnTest 106 rfl) rfl)
    · have L137 : ∀ (y0 : Nat) (hy0 : jkd y0 12) (n : Nat)  (M : SM), J (fun (q26 : SM) => Wk p l e R s m args below meth c G 1 Q 0 0 jN0 (jce G q26) 162 [some (.ref y0)] []) (lp_Mo_qGoesOnTest_137 y0 n M) (Wk p l e R s m args below meth c G 1 Q 0 0 jN0 (jce G M) 137 [some (.ref y0)] []) := by
        intro y0 hy0 n
        induction n with
        | zero => intro  M; exact J_none
        | succ n ih =>
          intro  M
          unfold lp_Mo_qGoesOnTest_137
          refine J_mono (w_aload_n C (jd jdt_Mo_qGoesOnTest 69 rfl) rfl) ?_
          refine J_mono (w_bipush_10 C (jd jdt_Mo_qGoesOnTest 70 rfl)) ?_
          refine J_bind (fun q20 hq20 => ?_)
          refine J_mono (jc_Mo_560 C hy0 (C_Mo_qIsOn l G F y0 10 hy0 M hq20) rfl (Nat.le_trans (Nat.le_of_ble_eq_true rfl : 1 + 1 ≤ 4) hD) (jd jdt_Mo_qGoesOnTest 71 rfl)) ?_
          refine J_br (w_if_ne (y := 0) C (jd jdt_Mo_qGoesOnTest 72 rfl) rfl) (fun h21 => J_pos h21 ?_) (fun h21 => J_neg h21 ?_)
          · refine J_mono (w_aload_n C (jd jdt_Mo_qGoesOnTest 73 rfl) rfl) ?_
            refine J_mono (w_bipush_11 C (jd jdt_Mo_qGoesOnTest 74 rfl)) ?_
            refine J_bind (fun q22 hq22 => ?_)
            refine J_mono (jc_Mo_560 C hy0 (C_Mo_qIsOn l G F y0 11 hy0 M hq22) rfl (Nat.le_trans (Nat.le_of_ble_eq_true rfl : 1 + 1 ≤ 4) hD) (jd jdt_Mo_qGoesOnTest 75 rfl)) ?_
            refine J_br (w_if_eq (y := 0) C (jd jdt_Mo_qGoesOnTest 76 rfl) rfl) (fun h23 => J_pos h23 ?_) (fun h23 => J_neg h23 ?_)
            · exact J_some (fun hx => Wk_sb hx ⟨rfl, trivial⟩)
            · refine J_mono (w_aload_n C (jd jdt_Mo_qGoesOnTest 77 rfl) rfl) ?_
              refine J_bind (fun q24 hq24 => ?_)
              refine J_mono (jc_Mo_536 C hy0 (C_Mo_qDrops l G F y0 hy0 M hq24) rfl (Nat.le_trans (Nat.le_of_ble_eq_true rfl : 2 + 1 ≤ 4) hD) (jd jdt_Mo_qGoesOnTest 78 rfl)) ?_
              refine J_mono (w_goto C (jd jdt_Mo_qGoesOnTest 79 rfl) rfl) ?_
              exact J_sub (ih q24) ⟨rfl, trivial⟩
          · refine J_mono (w_aload_n C (jd jdt_Mo_qGoesOnTest 77 rfl) rfl) ?_
            refine J_bind (fun q25 hq25 => ?_)
            refine J_mono (jc_Mo_536 C hy0 (C_Mo_qDrops l G F y0 hy0 M hq25) rfl (Nat.le_trans (Nat.le_of_ble_eq_true rfl : 2 + 1 ≤ 4) hD) (jd jdt_Mo_qGoesOnTest 78 rfl)) ?_
            refine J_mono (w_goto C (jd jdt_Mo_qGoesOnTest 79 rfl) rfl) ?_
            exact J_sub (ih q25) ⟨rfl, trivial⟩
      refine J_seq (fun (q26 : SM) => Wk p l e R s m args below meth c G 1 Q 0 0 jN0 (jce G q26) 162 [some (.ref a0)] []) (J_sub (L137 a0 hp0 jfuel q14.2) ⟨rfl, trivial⟩) (fun q26 hq26 => ?_)
      refine J_mono (w_aload_n C (jd jdt_Mo_qGoesOnTest 80 rfl) rfl) ?_
      refine J_mono (jg_Mo_206 C hp0 (jd jdt_Mo_qGoesOnTest 81 rfl)) ?_
      refine J_mono (w_aload_n C (jd jdt_Mo_qGoesOnTest 82 rfl) rfl) ?_
      refine J_mono (jg_Mo_524 C hp0 (jd jdt_Mo_qGoesOnTest 83 rfl)) ?_
      refine J_mono (w_bipush_11 C (jd jdt_Mo_qGoesOnTest 84 rfl)) ?_
      refine J_bind (fun M27 hM27 => ?_)
      refine J_mono (w_iast C F (jkf_12_90 hp0) hM27 (jd jdt_Mo_qGoesOnTest 85 rfl)) ?_
      refine J_mono (w_aload_n C (jd jdt_Mo_qGoesOnTest 86 rfl) rfl) ?_
      refine J_mono (w_dup_r C (jd jdt_Mo_qGoesOnTest 87 rfl)) ?_
      refine J_mono (jg_Mo_524 C hp0 (jd jdt_Mo_qGoesOnTest 88 rfl)) ?_
      refine J_mono (w_iconst_1 C (jd jdt_Mo_qGoesOnTest 89 rfl)) ?_
      refine J_mono (w_iadd C (jd jdt_Mo_qGoesOnTest 90 rfl)) ?_
      refine J_mono (jp_Mo_524 C F hp0 (jd jdt_Mo_qGoesOnTest 91 rfl)) ?_
      refine J_mono (w_iconst_1 C (jd jdt_Mo_qGoesOnTest 92 rfl)) ?_
      exact J_some (fun hx => hR 1 (sI M27 a0 91 ((M27.1 a0 91) + 1)) hx _ _ (jd jdt_Mo_qGoesOnTest 93 rfl) rfl)
  · have L87 : ∀ (y0 : Nat) (hy0 : jkd y0 12) (n : Nat)  (M : SM), J (fun (q31 : SM) => Wk p l e R s m args below meth c G 1 Q 0 0 jN0 (jce G q31) 103 [some (.ref y0)] []) (lp_Mo_qGoesOnTest_87 y0 n M) (Wk p l e R s m args below meth c G 1 Q 0 0 jN0 (jce G M) 87 [some (.ref y0)] []) := by
      intro y0 hy0 n
      induction n with
      | zero => intro  M; exact J_none
      | succ n ih =>
        intro  M
        unfold lp_Mo_qGoesOnTest_87
        refine J_mono (w_aload_n C (jd jdt_Mo_qGoesOnTest 43 rfl) rfl) ?_
        refine J_mono (w_bipush_10 C (jd jdt_Mo_qGoesOnTest 44 rfl)) ?_
        refine J_bind (fun q28 hq28 => ?_)
        refine J_mono (jc_Mo_560 C hy0 (C_Mo_qIsOn l G F y0 10 hy0 M hq28) rfl (Nat.le_trans (Nat.le_of_ble_eq_true rfl : 1 + 1 ≤ 4) hD) (jd jdt_Mo_qGoesOnTest 45 rfl)) ?_
        refine J_br (w_if_eq (y := 0) C (jd jdt_Mo_qGoesOnTest 46 rfl) rfl) (fun h29 => J_pos h29 ?_) (fun h29 => J_neg h29 ?_)
        · exact J_some (fun hx => Wk_sb hx ⟨rfl, trivial⟩)
        · refine J_mono (w_aload_n C (jd jdt_Mo_qGoesOnTest 47 rfl) rfl) ?_
          refine J_bind (fun q30 hq30 => ?_)
          refine J_mono (jc_Mo_536 C hy0 (C_Mo_qDrops l G F y0 hy0 M hq30) rfl (Nat.le_trans (Nat.le_of_ble_eq_true rfl : 2 + 1 ≤ 4) hD) (jd jdt_Mo_qGoesOnTest 48 rfl)) ?_
          refine J_mono (w_goto C (jd jdt_Mo_qGoesOnTest 49 rfl) rfl) ?_
          exact J_sub (ih q30) ⟨rfl, trivial⟩
    refine J_seq (fun (q31 : SM) => Wk p l e R s m args below meth c G 1 Q 0 0 jN0 (jce G q31) 103 [some (.ref a0)] []) (J_sub (L87 a0 hp0 jfuel q12.2) ⟨rfl, trivial⟩) (fun q31 hq31 => ?_)
    refine J_mono (w_aload_n C (jd jdt_Mo_qGoesOnTest 50 rfl) rfl) ?_
    refine J_mono (jg_Mo_206 C hp0 (jd jdt_Mo_qGoesOnTest 51 rfl)) ?_
    refine J_mono (w_aload_n C (jd jdt_Mo_qGoesOnTest 52 rfl) rfl) ?_
    refine J_mono (jg_Mo_524 C hp0 (jd jdt_Mo_qGoesOnTest 53 rfl)) ?_
    refine J_mono (w_bipush_10 C (jd jdt_Mo_qGoesOnTest 54 rfl)) ?_
    refine J_bind (fun M32 hM32 => ?_)
    refine J_mono (w_iast C F (jkf_12_90 hp0) hM32 (jd jdt_Mo_qGoesOnTest 55 rfl)) ?_
    refine J_mono (w_aload_n C (jd jdt_Mo_qGoesOnTest 56 rfl) rfl) ?_
    refine J_mono (w_dup_r C (jd jdt_Mo_qGoesOnTest 57 rfl)) ?_
    refine J_mono (jg_Mo_524 C hp0 (jd jdt_Mo_qGoesOnTest 58 rfl)) ?_
    refine J_mono (w_iconst_1 C (jd jdt_Mo_qGoesOnTest 59 rfl)) ?_
    refine J_mono (w_iadd C (jd jdt_Mo_qGoesOnTest 60 rfl)) ?_
    refine J_mono (jp_Mo_524 C F hp0 (jd jdt_Mo_qGoesOnTest 61 rfl)) ?_
    refine J_mono (w_iconst_1 C (jd jdt_Mo_qGoesOnTest 62 rfl)) ?_
    exact J_some (fun hx => hR 1 (sI M32 a0 91 ((M32.1 a0 91) + 1)) hx _ _ (jd jdt_Mo_qGoesOnTest 63 rfl) rfl)
end
theorem C_Mo_qGoesOnTest (l : Launch) (G : JG) (F : jF G = false) (a0 : Nat) (hp0 : jkd a0 12) (M : SM) {q : (Int32 × SM)} (hf : f_Mo_qGoesOnTest a0 M = some q) : jMet l jy_Mo_qGoesOnTest jb_Mo_qGoesOnTest 1 (some FieldType.boolean) 4 0 0 G [.ref a0] jN0 (jce G M) (some (.int q.1)) jN0 (jce G q.2) :=
  j_met jo_Mo_qGoesOnTest (by decide) (Nat.le_of_ble_eq_true rfl) (fun p e s m args below meth c C hr hm => K_Mo_qGoesOnTest C F (Nat.le_refl _) a0 hp0 M (fun t => t = q) (fun v M' hX pc ls hd hn => by cases hX; exact w_iret C hr hn hd) _ hf rfl)
def lp_Mo_qTest_2 (y0 : Nat) : Nat → Int32 → SM → Option (SM)
  | 0, _, _ => none
  | n + 1, x1, M => if x1 = 0 then (some M) else (if (M.1 y0 5) = 0 then ((f_Mo_look y0 M).bind fun q3 => if q3.1 = 91 then ((f_Mo_qOpens y0 25 (q3.2.1 y0 2) q3.2).bind fun q5 => lp_Mo_qTest_2 y0 n x1 (sI q5 y0 2 ((q5.1 y0 2) + 1))) else ((f_Mo_isHere y0 (jpf y0 74) q3.2).bind fun q6 => if q6.1 = 0 then ((f_Mo_qFact y0 q6.2).bind fun q8 => (f_Mo_qDropsNots y0 q8).bind fun q9 => (if (q9.1 y0 5) = 0 then ((f_Mo_qGoesOnTest y0 q9).bind fun q12 => if q12.1 = 0 then (some (0, q12.2)) else (some (1, q12.2))) else (some (0, q9)) : Option (Int32 × SM)).bind fun q10 => lp_Mo_qTest_2 y0 n q10.1 q10.2) else ((f_Mo_qOpens y0 12 (q6.2.1 y0 2) q6.2).bind fun q14 => (f_Mo_asks y0 (jpf y0 74) q14).bind fun q15 => lp_Mo_qTest_2 y0 n x1 q15))) else (some M))
def lp_Mo_qTest_110 (y0 : Nat) : Nat → SM → Option (SM)
  | 0, _ => none
  | n + 1, M => if (M.1 y0 5) = 0 then (if 0 < (M.1 y0 91) then ((f_Mo_qDrops y0 M).bind fun q19 => lp_Mo_qTest_110 y0 n q19) else (some M)) else (some M)
def f_Mo_qTest (a0 : Nat) (M : SM) : Option SM := (lp_Mo_qTest_2 a0 jfuel 1 M).bind fun q16 => (lp_Mo_qTest_110 a0 jfuel q16).bind fun q20 => some q20
section
variable {p : Program} {l : Launch} {e : Env} {R : Room} {s : State} {m : MethodId} {args : Array Value} {below : List Frame} {meth : Method} {c : Code} {G : JG} {D : Nat} {Q : State → Prop}
set_option maxHeartbeats 4000000 in
set_option maxRecDepth 20000 in
theorem K_Mo_qTest (C : jCx p R s m args meth c G jb_Mo_qTest 3 D "SluicePitModel") (F : jF G = false) (hD : 9 ≤ D) (a0 : Nat) (hp0 : jkd a0 12) (M : SM) (X : SM → Prop) (hR : ∀ M', X M' → ∀ (pc : Nat) (ls : List (Option Value)), decode jb_Mo_qTest pc = .ok (.return_, 1) → Wk p l e R s m args below meth c G 3 Q 0 0 jN0 (jce G M') pc ls []) : J X (f_Mo_qTest a0 M) (Wk p l e R s m args below meth c G 3 Q 0 0 jN0 (jce G M) 0 [some (.ref a0), none, none] []) := by
  unfold f_Mo_qTest
  refine J_mono (w_iconst_1 C (jd jdt_Mo_qTest 0 rfl)) ?_
  refine J_mono (w_istore_n (ls' := [some (.ref a0), some (.int 1), none]) C (jd jdt_Mo_qTest 1 rfl) (by decide) rfl rfl) ?_
  have L2 : ∀ (y0 : Nat) (hy0 : jkd y0 12) (n : Nat) (x1 : Int32) (M : SM), J (fun (q16 : SM) => Wk p l e R s m args below meth c G 3 Q 0 0 jN0 (jce G q16) 110 [some (.ref y0), none, none] []) (lp_Mo_qTest_2 y0 n x1 M) (Wk p l e R s m args below meth c G 3 Q 0 0 jN0 (jce G M) 2 [some (.ref y0), some (.int x1), none] []) := by
    intro y0 hy0 n
    induction n with
    | zero => intro x1 M; exact J_none
    | succ n ih =>
      intro x1 M
      unfold lp_Mo_qTest_2
      refine J_mono (w_iload_n C (jd jdt_Mo_qTest 2 rfl) rfl) ?_
      refine J_br (w_if_eq (y := 0) C (jd jdt_Mo_qTest 3 rfl) rfl) (fun h1 => J_pos h1 ?_) (fun h1 => J_neg h1 ?_)
      · exact J_some (fun hx => Wk_sb hx ⟨rfl, trivial⟩)
      · refine J_mono (w_aload_n C (jd jdt_Mo_qTest 4 rfl) rfl) ?_
        refine J_mono (jg_Mo_218 C hy0 (jd jdt_Mo_qTest 5 rfl)) ?_
        refine J_br (w_if_ne (y := 0) C (jd jdt_Mo_qTest 6 rfl) rfl) (fun h2 => J_pos h2 ?_) (fun h2 => J_neg h2 ?_)
        · refine J_mono (w_aload_n C (jd jdt_Mo_qTest 7 rfl) rfl) ?_
          refine J_bind (fun q3 hq3 => ?_)
          refine J_mono (jc_Mo_230 C hy0 (C_Mo_look l G F y0 hy0 M hq3) rfl (Nat.le_trans (Nat.le_of_ble_eq_true rfl : 1 + 1 ≤ 9) hD) (jd jdt_Mo_qTest 8 rfl)) ?_
          refine J_mono (w_istore_n (ls' := [some (.ref y0), some (.int x1), some (.int q3.1)]) C (jd jdt_Mo_qTest 9 rfl) (by decide) rfl rfl) ?_
          refine J_mono (w_iload_n C (jd jdt_Mo_qTest 10 rfl) rfl) ?_
          refine J_mono (w_bipush_91 C (jd jdt_Mo_qTest 11 rfl)) ?_
          refine J_br (w_icmp_ne C (jd jdt_Mo_qTest 12 rfl) rfl) (fun h4 => J_pos h4 ?_) (fun h4 => J_neg h4 ?_)
          · refine J_mono (w_aload_n C (jd jdt_Mo_qTest 13 rfl) rfl) ?_
            refine J_mono (w_bipush_25 C (jd jdt_Mo_qTest 14 rfl)) ?_
            refine J_mono (w_aload_n C (jd jdt_Mo_qTest 15 rfl) rfl) ?_
            refine J_mono (jg_Mo_224 C hy0 (jd jdt_Mo_qTest 16 rfl)) ?_
            refine J_bind (fun q5 hq5 => ?_)
            refine J_mono (jc_Mo_545 C hy0 (C_Mo_qOpens l G F y0 25 (q3.2.1 y0 2) hy0 q3.2 hq5) rfl (Nat.le_trans (Nat.le_of_ble_eq_true rfl : 2 + 1 ≤ 9) hD) (jd jdt_Mo_qTest 17 rfl)) ?_
            refine J_mono (w_aload_n C (jd jdt_Mo_qTest 18 rfl) rfl) ?_
            refine J_mono (w_dup_r C (jd jdt_Mo_qTest 19 rfl)) ?_
            refine J_mono (jg_Mo_224 C hy0 (jd jdt_Mo_qTest 20 rfl)) ?_
            refine J_mono (w_iconst_1 C (jd jdt_Mo_qTest 21 rfl)) ?_
            refine J_mono (w_iadd C (jd jdt_Mo_qTest 22 rfl)) ?_
            refine J_mono (jp_Mo_224 C F hy0 (jd jdt_Mo_qTest 23 rfl)) ?_
            refine J_mono (w_goto C (jd jdt_Mo_qTest 24 rfl) rfl) ?_
            exact J_sub (ih x1 (sI q5 y0 2 ((q5.1 y0 2) + 1))) ⟨rfl, rfl, trivial⟩
          · refine J_mono (w_aload_n C (jd jdt_Mo_qTest 25 rfl) rfl) ?_
            refine J_mono (w_aload_n C (jd jdt_Mo_qTest 26 rfl) rfl) ?_
            refine J_mono (jg_Mo_161 C hy0 (jd jdt_Mo_qTest 27 rfl)) ?_
            refine J_bind (fun q6 hq6 => ?_)
            refine J_mono (jc_Mo_241 C hy0 (C_Mo_isHere l G F y0 (jpf y0 74) hy0 (jkf_12_74 hy0) q3.2 hq6) rfl (Nat.le_trans (Nat.le_of_ble_eq_true rfl : 2 + 1 ≤ 9) hD) (jd jdt_Mo_qTest 28 rfl)) ?_
            refine J_br (w_if_eq (y := 0) C (jd jdt_Mo_qTest 29 rfl) rfl) (fun h7 => J_pos h7 ?_) (fun h7 => J_neg h7 ?_)
            · refine J_mono (w_aload_n C (jd jdt_Mo_qTest 40 rfl) rfl) ?_
              refine J_bind (fun q8 hq8 => ?_)
              refine J_mono (jc_Mo_572 C hy0 (C_Mo_qFact l G F y0 hy0 q6.2 hq8) rfl (Nat.le_trans (Nat.le_of_ble_eq_true rfl : 8 + 1 ≤ 9) hD) (jd jdt_Mo_qTest 41 rfl)) ?_
              refine J_mono (w_aload_n C (jd jdt_Mo_qTest 42 rfl) rfl) ?_
              refine J_bind (fun q9 hq9 => ?_)
              refine J_mono (jc_Mo_575 C hy0 (C_Mo_qDropsNots l G F y0 hy0 q8 hq9) rfl (Nat.le_trans (Nat.le_of_ble_eq_true rfl : 3 + 1 ≤ 9) hD) (jd jdt_Mo_qTest 43 rfl)) ?_
              refine J_mono (w_aload_n C (jd jdt_Mo_qTest 44 rfl) rfl) ?_
              refine J_mono (jg_Mo_218 C hy0 (jd jdt_Mo_qTest 45 rfl)) ?_
              refine J_seq (fun (q10 : Int32 × SM) => Wk p l e R s m args below meth c G 3 Q 0 0 jN0 (jce G q10.2) 106 [some (.ref y0), none, none] [.int q10.1]) ?_ (fun q10 hq10 => ?_)
              · refine J_br (w_if_ne (y := 0) C (jd jdt_Mo_qTest 46 rfl) rfl) (fun h11 => J_pos h11 ?_) (fun h11 => J_neg h11 ?_)
                · refine J_mono (w_aload_n C (jd jdt_Mo_qTest 47 rfl) rfl) ?_
                  refine J_bind (fun q12 hq12 => ?_)
                  refine J_mono (jc_Mo_578 C hy0 (C_Mo_qGoesOnTest l G F y0 hy0 q9 hq12) rfl (Nat.le_trans (Nat.le_of_ble_eq_true rfl : 4 + 1 ≤ 9) hD) (jd jdt_Mo_qTest 48 rfl)) ?_
                  refine J_br (w_if_eq (y := 0) C (jd jdt_Mo_qTest 49 rfl) rfl) (fun h13 => J_pos h13 ?_) (fun h13 => J_neg h13 ?_)
                  · refine J_mono (w_iconst_0 C (jd jdt_Mo_qTest 52 rfl)) ?_
                    exact J_some (fun hx => Wk_sb hx ⟨rfl, trivial⟩)
                  · refine J_mono (w_iconst_1 C (jd jdt_Mo_qTest 50 rfl)) ?_
                    refine J_mono (w_goto C (jd jdt_Mo_qTest 51 rfl) rfl) ?_
                    exact J_some (fun hx => Wk_sb hx ⟨rfl, trivial⟩)
                · refine J_mono (w_iconst_0 C (jd jdt_Mo_qTest 52 rfl)) ?_
                  exact J_some (fun hx => Wk_sb hx ⟨rfl, trivial⟩)
              · refine J_mono (w_istore_n (ls' := [some (.ref y0), some (.int q10.1), none]) C (jd jdt_Mo_qTest 53 rfl) (by decide) rfl rfl) ?_
                refine J_mono (w_goto C (jd jdt_Mo_qTest 54 rfl) rfl) ?_
                exact J_sub (ih q10.1 q10.2) ⟨rfl, rfl, trivial⟩
            · refine J_mono (w_aload_n C (jd jdt_Mo_qTest 30 rfl) rfl) ?_
              refine J_mono (w_bipush_12 C (jd jdt_Mo_qTest 31 rfl)) ?_
              refine J_mono (w_aload_n C (jd jdt_Mo_qTest 32 rfl) rfl) ?_
              refine J_mono (jg_Mo_224 C hy0 (jd jdt_Mo_qTest 33 rfl)) ?_
              refine J_bind (fun q14 hq14 => ?_)
              refine J_mono (jc_Mo_545 C hy0 (C_Mo_qOpens l G F y0 12 (q6.2.1 y0 2) hy0 q6.2 hq14) rfl (Nat.le_trans (Nat.le_of_ble_eq_true rfl : 2 + 1 ≤ 9) hD) (jd jdt_Mo_qTest 34 rfl)) ?_
              refine J_mono (w_aload_n C (jd jdt_Mo_qTest 35 rfl) rfl) ?_
              refine J_mono (w_aload_n C (jd jdt_Mo_qTest 36 rfl) rfl) ?_
              refine J_mono (jg_Mo_161 C hy0 (jd jdt_Mo_qTest 37 rfl)) ?_
              refine J_bind (fun q15 hq15 => ?_)
              refine J_mono (jc_Mo_304 C hy0 (C_Mo_asks l G F y0 (jpf y0 74) hy0 (jkf_12_74 hy0) q14 hq15) rfl (Nat.le_trans (Nat.le_of_ble_eq_true rfl : 4 + 1 ≤ 9) hD) (jd jdt_Mo_qTest 38 rfl)) ?_
              refine J_mono (w_goto C (jd jdt_Mo_qTest 39 rfl) rfl) ?_
              exact J_sub (ih x1 q15) ⟨rfl, rfl, trivial⟩
        · exact J_some (fun hx => Wk_sb hx ⟨rfl, trivial⟩)
  refine J_seq (fun (q16 : SM) => Wk p l e R s m args below meth c G 3 Q 0 0 jN0 (jce G q16) 110 [some (.ref a0), none, none] []) (J_sub (L2 a0 hp0 jfuel 1 M) ⟨rfl, rfl, trivial⟩) (fun q16 hq16 => ?_)
  have L110 : ∀ (y0 : Nat) (hy0 : jkd y0 12) (n : Nat)  (M : SM), J (fun (q20 : SM) => Wk p l e R s m args below meth c G 3 Q 0 0 jN0 (jce G q20) 131 [none, none, none] []) (lp_Mo_qTest_110 y0 n M) (Wk p l e R s m args below meth c G 3 Q 0 0 jN0 (jce G M) 110 [some (.ref y0), none, none] []) := by
    intro y0 hy0 n
    induction n with
    | zero => intro  M; exact J_none
    | succ n ih =>
      intro  M
      unfold lp_Mo_qTest_110
      refine J_mono (w_aload_n C (jd jdt_Mo_qTest 55 rfl) rfl) ?_
      refine J_mono (jg_Mo_218 C hy0 (jd jdt_Mo_qTest 56 rfl)) ?_
      refine J_br (w_if_ne (y := 0) C (jd jdt_Mo_qTest 57 rfl) rfl) (fun h17 => J_pos h17 ?_) (fun h17 => J_neg h17 ?_)
      · refine J_mono (w_aload_n C (jd jdt_Mo_qTest 58 rfl) rfl) ?_
        refine J_mono (jg_Mo_524 C hy0 (jd jdt_Mo_qTest 59 rfl)) ?_
        refine J_br (w_if_le (y := 0) C (jd jdt_Mo_qTest 60 rfl) rfl) (fun h18 => J_pos h18 ?_) (fun h18 => J_neg h18 ?_)
        · refine J_mono (w_aload_n C (jd jdt_Mo_qTest 61 rfl) rfl) ?_
          refine J_bind (fun q19 hq19 => ?_)
          refine J_mono (jc_Mo_536 C hy0 (C_Mo_qDrops l G F y0 hy0 M hq19) rfl (Nat.le_trans (Nat.le_of_ble_eq_true rfl : 2 + 1 ≤ 9) hD) (jd jdt_Mo_qTest 62 rfl)) ?_
          refine J_mono (w_goto C (jd jdt_Mo_qTest 63 rfl) rfl) ?_
          exact J_sub (ih q19) ⟨rfl, trivial⟩
        · exact J_some (fun hx => Wk_sb hx trivial)
      · exact J_some (fun hx => Wk_sb hx trivial)
  refine J_seq (fun (q20 : SM) => Wk p l e R s m args below meth c G 3 Q 0 0 jN0 (jce G q20) 131 [none, none, none] []) (J_sub (L110 a0 hp0 jfuel q16) ⟨rfl, trivial⟩) (fun q20 hq20 => ?_)
  exact J_some (fun hx => hR q20 hx _ _ (jd jdt_Mo_qTest 64 rfl))
end
theorem C_Mo_qTest (l : Launch) (G : JG) (F : jF G = false) (a0 : Nat) (hp0 : jkd a0 12) (M : SM) {q : SM} (hf : f_Mo_qTest a0 M = some q) : jMet l jy_Mo_qTest jb_Mo_qTest 3 none 9 0 0 G [.ref a0] jN0 (jce G M) none jN0 (jce G q) :=
  j_met jo_Mo_qTest (by decide) (Nat.le_of_ble_eq_true rfl) (fun p e s m args below meth c C hr hm => K_Mo_qTest C F (Nat.le_refl _) a0 hp0 M (fun t => t = q) (fun M' hX pc ls hd => by cases hX; exact w_vret C hr hd) _ hf rfl)
def f_Mo_qPuts (a0 : Nat) (a1 : Int64) (M : SM) : Option SM := (aSL M (jpf a0 94) (M.1 a0 95) a1).bind fun M1 => some (sI M1 a0 95 ((M1.1 a0 95) + 1))
section
variable {p : Program} {l : Launch} {e : Env} {R : Room} {s : State} {m : MethodId} {args : Array Value} {below : List Frame} {meth : Method} {c : Code} {G : JG} {D : Nat} {Q : State → Prop}
set_option maxHeartbeats 4000000 in
set_option maxRecDepth 20000 in
theorem K_Mo_qPuts (C : jCx p R s m args meth c G jb_Mo_qPuts 3 D "SluicePitModel") (F : jF G = false) (hD : 1 ≤ D) (a0 : Nat) (a1 : Int64) (hp0 : jkd a0 12) (M : SM) (X : SM → Prop) (hR : ∀ M', X M' → ∀ (pc : Nat) (ls : List (Option Value)), decode jb_Mo_qPuts pc = .ok (.return_, 1) → Wk p l e R s m args below meth c G 3 Q 0 0 jN0 (jce G M') pc ls []) : J X (f_Mo_qPuts a0 a1 M) (Wk p l e R s m args below meth c G 3 Q 0 0 jN0 (jce G M) 0 [some (.ref a0), some (.long a1), none] []) := by
  unfold f_Mo_qPuts
  refine J_mono (w_aload_n C (jd jdt_Mo_qPuts 0 rfl) rfl) ?_
  refine J_mono (jg_Mo_209 C hp0 (jd jdt_Mo_qPuts 1 rfl)) ?_
  refine J_mono (w_aload_n C (jd jdt_Mo_qPuts 2 rfl) rfl) ?_
  refine J_mono (jg_Mo_588 C hp0 (jd jdt_Mo_qPuts 3 rfl)) ?_
  refine J_mono (w_lload_n C (jd jdt_Mo_qPuts 4 rfl) rfl) ?_
  refine J_bind (fun M1 hM1 => ?_)
  refine J_mono (w_last C F (jkf_12_94 hp0) hM1 (jd jdt_Mo_qPuts 5 rfl)) ?_
  refine J_mono (w_aload_n C (jd jdt_Mo_qPuts 6 rfl) rfl) ?_
  refine J_mono (w_dup_r C (jd jdt_Mo_qPuts 7 rfl)) ?_
  refine J_mono (jg_Mo_588 C hp0 (jd jdt_Mo_qPuts 8 rfl)) ?_
  refine J_mono (w_iconst_1 C (jd jdt_Mo_qPuts 9 rfl)) ?_
  refine J_mono (w_iadd C (jd jdt_Mo_qPuts 10 rfl)) ?_
  refine J_mono (jp_Mo_588 C F hp0 (jd jdt_Mo_qPuts 11 rfl)) ?_
  exact J_some (fun hx => hR (sI M1 a0 95 ((M1.1 a0 95) + 1)) hx _ _ (jd jdt_Mo_qPuts 12 rfl))
end
theorem C_Mo_qPuts (l : Launch) (G : JG) (F : jF G = false) (a0 : Nat) (a1 : Int64) (hp0 : jkd a0 12) (M : SM) {q : SM} (hf : f_Mo_qPuts a0 a1 M = some q) : jMet l jy_Mo_qPuts jb_Mo_qPuts 3 none 1 0 0 G [.ref a0, .long a1] jN0 (jce G M) none jN0 (jce G q) :=
  j_met jo_Mo_qPuts (by decide) (Nat.le_of_ble_eq_true rfl) (fun p e s m args below meth c C hr hm => K_Mo_qPuts C F (Nat.le_refl _) a0 a1 hp0 M (fun t => t = q) (fun M' hX pc ls hd => by cases hX; exact w_vret C hr hd) _ hf rfl)
def f_Mo_qOf (a0 : Nat) (a1 : Int32) (a2 : Int64) (a3 : Int32) (M : SM) : Option Int64 := if a1 = 0 then ((f_Mo_isIn a2 0 (Int32.toInt64 ((M.1 a0 31) - 1))).bind fun q2 => if q2 = 0 then (some 0) else ((aI M (jpf a0 59) ((12 * a3) + (Int64.toInt32 a2))).bind fun v4 => some v4.toInt64)) else ((aI M (jpf a0 28) 6).bind fun v5 => (f_Mo_isIn a2 0 (Int32.toInt64 (v5 - 1))).bind fun q6 => if q6 = 0 then (some 0) else ((aI M (jpf a0 60) ((4 * a3) + (Int64.toInt32 a2))).bind fun v8 => some v8.toInt64))
section
variable {p : Program} {l : Launch} {e : Env} {R : Room} {s : State} {m : MethodId} {args : Array Value} {below : List Frame} {meth : Method} {c : Code} {G : JG} {D : Nat} {Q : State → Prop}
set_option maxHeartbeats 4000000 in
set_option maxRecDepth 20000 in
theorem K_Mo_qOf (C : jCx p R s m args meth c G jb_Mo_qOf 5 D "SluicePitModel") (F : jF G = false) (hD : 2 ≤ D) (a0 : Nat) (a1 : Int32) (a2 : Int64) (a3 : Int32) (hp0 : jkd a0 12) (M : SM) (X : Int64 → Prop) (hR : ∀ v, X v → ∀ (pc : Nat) (ls : List (Option Value)), decode jb_Mo_qOf pc = .ok (.lreturn, 1) → Wk p l e R s m args below meth c G 5 Q 0 0 jN0 (jce G M) pc ls [.long v]) : J X (f_Mo_qOf a0 a1 a2 a3 M) (Wk p l e R s m args below meth c G 5 Q 0 0 jN0 (jce G M) 0 [some (.ref a0), some (.int a1), some (.long a2), none, some (.int a3)] []) := by
  unfold f_Mo_qOf
  refine J_mono (w_iload_n C (jd jdt_Mo_qOf 0 rfl) rfl) ?_
  refine J_ite (fun h1 => ?_) (fun h1 => ?_)
  · refine J_mono (w_lswh h1 C (jd jdt_Mo_qOf 1 rfl) rfl rfl rfl) ?_
    refine J_mono (w_lload_n C (jd jdt_Mo_qOf 2 rfl) rfl) ?_
    refine J_mono (w_lconst_0 C (jd jdt_Mo_qOf 3 rfl)) ?_
    refine J_mono (w_aload_n C (jd jdt_Mo_qOf 4 rfl) rfl) ?_
    refine J_mono (jg_Mo_367 C hp0 (jd jdt_Mo_qOf 5 rfl)) ?_
    refine J_mono (w_iconst_1 C (jd jdt_Mo_qOf 6 rfl)) ?_
    refine J_mono (w_isub C (jd jdt_Mo_qOf 7 rfl)) ?_
    refine J_mono (w_i2l C (jd jdt_Mo_qOf 8 rfl)) ?_
    refine J_bind (fun q2 hq2 => ?_)
    refine J_mono (jc_Mo_261 C (C_Mo_isIn l G F a2 0 (Int32.toInt64 ((M.1 a0 31) - 1)) M hq2) rfl (Nat.le_trans (Nat.le_of_ble_eq_true rfl : 1 + 1 ≤ 2) hD) (jd jdt_Mo_qOf 9 rfl)) ?_
    refine J_br (w_if_eq (y := 0) C (jd jdt_Mo_qOf 10 rfl) rfl) (fun h3 => J_pos h3 ?_) (fun h3 => J_neg h3 ?_)
    · refine J_mono (w_lconst_0 C (jd jdt_Mo_qOf 22 rfl)) ?_
      exact J_some (fun hx => hR 0 hx _ _ (jd jdt_Mo_qOf 23 rfl) )
    · refine J_mono (w_aload_n C (jd jdt_Mo_qOf 11 rfl) rfl) ?_
      refine J_mono (jg_Mo_124 C hp0 (jd jdt_Mo_qOf 12 rfl)) ?_
      refine J_mono (w_bipush_12 C (jd jdt_Mo_qOf 13 rfl)) ?_
      refine J_mono (w_iload C (jd jdt_Mo_qOf 14 rfl) rfl) ?_
      refine J_mono (w_imul C (jd jdt_Mo_qOf 15 rfl)) ?_
      refine J_mono (w_lload_n C (jd jdt_Mo_qOf 16 rfl) rfl) ?_
      refine J_mono (w_l2i C (jd jdt_Mo_qOf 17 rfl)) ?_
      refine J_mono (w_iadd C (jd jdt_Mo_qOf 18 rfl)) ?_
      refine J_bind (fun v4 hv4 => ?_)
      refine J_mono (w_iald C (jkf_12_59 hp0) hv4 (jd jdt_Mo_qOf 19 rfl)) ?_
      refine J_mono (w_i2l C (jd jdt_Mo_qOf 20 rfl)) ?_
      refine J_mono (w_goto C (jd jdt_Mo_qOf 21 rfl) rfl) ?_
      exact J_some (fun hx => hR v4.toInt64 hx _ _ (jd jdt_Mo_qOf 23 rfl) )
  · refine J_mono (w_lswd C (jd jdt_Mo_qOf 1 rfl) rfl (by show Op.lookupswitch.offset [(0, 19)] 53 _ = _; simp only [Op.lookupswitch.offset_cons, Op.lookupswitch.offset_nil]; rw [if_neg (lsn (v := 0) h1)]) rfl) ?_
    refine J_mono (w_lload_n C (jd jdt_Mo_qOf 24 rfl) rfl) ?_
    refine J_mono (w_lconst_0 C (jd jdt_Mo_qOf 25 rfl)) ?_
    refine J_mono (w_aload_n C (jd jdt_Mo_qOf 26 rfl) rfl) ?_
    refine J_mono (jg_Mo_69 C hp0 (jd jdt_Mo_qOf 27 rfl)) ?_
    refine J_mono (w_bipush_6 C (jd jdt_Mo_qOf 28 rfl)) ?_
    refine J_bind (fun v5 hv5 => ?_)
    refine J_mono (w_iald C (jkf_12_28 hp0) hv5 (jd jdt_Mo_qOf 29 rfl)) ?_
    refine J_mono (w_iconst_1 C (jd jdt_Mo_qOf 30 rfl)) ?_
    refine J_mono (w_isub C (jd jdt_Mo_qOf 31 rfl)) ?_
    refine J_mono (w_i2l C (jd jdt_Mo_qOf 32 rfl)) ?_
    refine J_bind (fun q6 hq6 => ?_)
    refine J_mono (jc_Mo_261 C (C_Mo_isIn l G F a2 0 (Int32.toInt64 (v5 - 1)) M hq6) rfl (Nat.le_trans (Nat.le_of_ble_eq_true rfl : 1 + 1 ≤ 2) hD) (jd jdt_Mo_qOf 33 rfl)) ?_
    refine J_br (w_if_eq (y := 0) C (jd jdt_Mo_qOf 34 rfl) rfl) (fun h7 => J_pos h7 ?_) (fun h7 => J_neg h7 ?_)
    · refine J_mono (w_lconst_0 C (jd jdt_Mo_qOf 46 rfl)) ?_
      exact J_some (fun hx => hR 0 hx _ _ (jd jdt_Mo_qOf 47 rfl) )
    · refine J_mono (w_aload_n C (jd jdt_Mo_qOf 35 rfl) rfl) ?_
      refine J_mono (jg_Mo_127 C hp0 (jd jdt_Mo_qOf 36 rfl)) ?_
      refine J_mono (w_iconst_4 C (jd jdt_Mo_qOf 37 rfl)) ?_
      refine J_mono (w_iload C (jd jdt_Mo_qOf 38 rfl) rfl) ?_
      refine J_mono (w_imul C (jd jdt_Mo_qOf 39 rfl)) ?_
      refine J_mono (w_lload_n C (jd jdt_Mo_qOf 40 rfl) rfl) ?_
      refine J_mono (w_l2i C (jd jdt_Mo_qOf 41 rfl)) ?_
      refine J_mono (w_iadd C (jd jdt_Mo_qOf 42 rfl)) ?_
      refine J_bind (fun v8 hv8 => ?_)
      refine J_mono (w_iald C (jkf_12_60 hp0) hv8 (jd jdt_Mo_qOf 43 rfl)) ?_
      refine J_mono (w_i2l C (jd jdt_Mo_qOf 44 rfl)) ?_
      refine J_mono (w_goto C (jd jdt_Mo_qOf 45 rfl) rfl) ?_
      exact J_some (fun hx => hR v8.toInt64 hx _ _ (jd jdt_Mo_qOf 47 rfl) )
end
theorem C_Mo_qOf (l : Launch) (G : JG) (F : jF G = false) (a0 : Nat) (a1 : Int32) (a2 : Int64) (a3 : Int32) (hp0 : jkd a0 12) (M : SM) {q : Int64} (hf : f_Mo_qOf a0 a1 a2 a3 M = some q) : jMet l jy_Mo_qOf jb_Mo_qOf 5 (some FieldType.long) 2 0 0 G [.ref a0, .int a1, .long a2, .int a3] jN0 (jce G M) (some (.long q)) jN0 (jce G M) :=
  j_met jo_Mo_qOf (by decide) (Nat.le_of_ble_eq_true rfl) (fun p e s m args below meth c C hr hm => K_Mo_qOf C F (Nat.le_refl _) a0 a1 a2 a3 hp0 M (fun t => t = q) (fun v hX pc ls hd => by cases hX; exact w_lret C hr hd) _ hf rfl)
def f_Mo_qClip (a0 : Int64) : Option Int64 := if 1000000 < a0 then (some 1000000) else (if a0 < (-1000000) then (some (-1000000)) else (some a0))
section
variable {p : Program} {l : Launch} {e : Env} {R : Room} {s : State} {m : MethodId} {args : Array Value} {below : List Frame} {meth : Method} {c : Code} {G : JG} {D : Nat} {Q : State → Prop}
set_option maxHeartbeats 4000000 in
set_option maxRecDepth 20000 in
theorem K_Mo_qClip (C : jCx p R s m args meth c G jb_Mo_qClip 2 D "SluicePitModel") (F : jF G = false) (hD : 1 ≤ D) (a0 : Int64)  (M : SM) (X : Int64 → Prop) (hR : ∀ v, X v → ∀ (pc : Nat) (ls : List (Option Value)), decode jb_Mo_qClip pc = .ok (.lreturn, 1) → Wk p l e R s m args below meth c G 2 Q 0 0 jN0 (jce G M) pc ls [.long v]) : J X (f_Mo_qClip a0) (Wk p l e R s m args below meth c G 2 Q 0 0 jN0 (jce G M) 0 [some (.long a0), none] []) := by
  unfold f_Mo_qClip
  refine J_mono (w_lload_n C (jd jdt_Mo_qClip 0 rfl) rfl) ?_
  refine J_mono (w_ldc2 C (jd jdt_Mo_qClip 1 rfl) jw_1919) ?_
  refine J_br (w_lcmp_le C (jd jdt_Mo_qClip 2 rfl) (jd jdt_Mo_qClip 3 rfl) rfl) (fun h1 => J_pos h1 ?_) (fun h1 => J_neg h1 ?_)
  · refine J_mono (w_ldc2 C (jd jdt_Mo_qClip 4 rfl) jw_1919) ?_
    refine J_mono (w_goto C (jd jdt_Mo_qClip 5 rfl) rfl) ?_
    exact J_some (fun hx => hR 1000000 hx _ _ (jd jdt_Mo_qClip 13 rfl) )
  · refine J_mono (w_lload_n C (jd jdt_Mo_qClip 6 rfl) rfl) ?_
    refine J_mono (w_ldc2 C (jd jdt_Mo_qClip 7 rfl) jw_1920) ?_
    refine J_br (w_lcmp_ge C (jd jdt_Mo_qClip 8 rfl) (jd jdt_Mo_qClip 9 rfl) rfl) (fun h2 => J_pos h2 ?_) (fun h2 => J_neg h2 ?_)
    · refine J_mono (w_ldc2 C (jd jdt_Mo_qClip 10 rfl) jw_1920) ?_
      refine J_mono (w_goto C (jd jdt_Mo_qClip 11 rfl) rfl) ?_
      exact J_some (fun hx => hR (-1000000) hx _ _ (jd jdt_Mo_qClip 13 rfl) )
    · refine J_mono (w_lload_n C (jd jdt_Mo_qClip 12 rfl) rfl) ?_
      exact J_some (fun hx => hR a0 hx _ _ (jd jdt_Mo_qClip 13 rfl) )
end
theorem C_Mo_qClip (l : Launch) (G : JG) (F : jF G = false) (a0 : Int64)  (M : SM) {q : Int64} (hf : f_Mo_qClip a0 = some q) : jMet l jy_Mo_qClip jb_Mo_qClip 2 (some FieldType.long) 1 0 0 G [.long a0] jN0 (jce G M) (some (.long q)) jN0 (jce G M) :=
  j_met jo_Mo_qClip (by decide) (Nat.le_of_ble_eq_true rfl) (fun p e s m args below meth c C hr hm => K_Mo_qClip C F (Nat.le_refl _) a0  M (fun t => t = q) (fun v hX pc ls hd => by cases hX; exact w_lret C hr hd) _ hf rfl)
def f_Mo_qPartOf (a0 : Nat) (a1 : Int32) (a2 : Int32) (M : SM) : Option Int64 := if a1 = 0 then (some a2.toInt64) else (if a1 = 1 then ((aI M (jpf a0 61) (6 * a2)).bind fun v3 => some v3.toInt64) else (if a1 = 2 then ((aI M (jpf a0 61) ((6 * a2) + 1)).bind fun v5 => some v5.toInt64) else (if a1 = 3 then ((aI M (jpf a0 61) ((6 * a2) + 2)).bind fun v7 => some v7.toInt64) else (if a1 = 4 then ((aI M (jpf a0 61) ((6 * a2) + 3)).bind fun v9 => some v9.toInt64) else (if a2 = 0 then (some 0) else ((aI M (jpf a0 61) ((6 * a2) + 5)).bind fun v11 => (aI M (jpf a0 61) ((6 * a2) - 1)).bind fun v12 => some (Int32.toInt64 (v11 - v12))))))))
section
variable {p : Program} {l : Launch} {e : Env} {R : Room} {s : State} {m : MethodId} {args : Array Value} {below : List Frame} {meth : Method} {c : Code} {G : JG} {D : Nat} {Q : State → Prop}
set_option maxHeartbeats 4000000 in
set_option maxRecDepth 20000 in
theorem K_Mo_qPartOf (C : jCx p R s m args meth c G jb_Mo_qPartOf 3 D "SluicePitModel") (F : jF G = false) (hD : 1 ≤ D) (a0 : Nat) (a1 : Int32) (a2 : Int32) (hp0 : jkd a0 12) (M : SM) (X : Int64 → Prop) (hR : ∀ v, X v → ∀ (pc : Nat) (ls : List (Option Value)), decode jb_Mo_qPartOf pc = .ok (.lreturn, 1) → Wk p l e R s m args below meth c G 3 Q 0 0 jN0 (jce G M) pc ls [.long v]) : J X (f_Mo_qPartOf a0 a1 a2 M) (Wk p l e R s m args below meth c G 3 Q 0 0 jN0 (jce G M) 0 [some (.ref a0), some (.int a1), some (.int a2)] []) := by
  unfold f_Mo_qPartOf
  refine J_mono (w_iload_n C (jd jdt_Mo_qPartOf 0 rfl) rfl) ?_
  refine J_ite (fun h1 => ?_) (fun h1 => ?_)
  · refine J_mono (w_tsw C h1 (jd jdt_Mo_qPartOf 1 rfl) (by decide) (by decide) rfl rfl) ?_
    refine J_mono (w_iload_n C (jd jdt_Mo_qPartOf 2 rfl) rfl) ?_
    refine J_mono (w_i2l C (jd jdt_Mo_qPartOf 3 rfl)) ?_
    exact J_some (fun hx => hR a2.toInt64 hx _ _ (jd jdt_Mo_qPartOf 4 rfl) )
  · refine J_ite (fun h2 => ?_) (fun h2 => ?_)
    · refine J_mono (w_tsw C h2 (jd jdt_Mo_qPartOf 1 rfl) (by decide) (by decide) rfl rfl) ?_
      refine J_mono (w_aload_n C (jd jdt_Mo_qPartOf 5 rfl) rfl) ?_
      refine J_mono (jg_Mo_130 C hp0 (jd jdt_Mo_qPartOf 6 rfl)) ?_
      refine J_mono (w_bipush_6 C (jd jdt_Mo_qPartOf 7 rfl)) ?_
      refine J_mono (w_iload_n C (jd jdt_Mo_qPartOf 8 rfl) rfl) ?_
      refine J_mono (w_imul C (jd jdt_Mo_qPartOf 9 rfl)) ?_
      refine J_bind (fun v3 hv3 => ?_)
      refine J_mono (w_iald C (jkf_12_61 hp0) hv3 (jd jdt_Mo_qPartOf 10 rfl)) ?_
      refine J_mono (w_i2l C (jd jdt_Mo_qPartOf 11 rfl)) ?_
      exact J_some (fun hx => hR v3.toInt64 hx _ _ (jd jdt_Mo_qPartOf 12 rfl) )
    · refine J_ite (fun h4 => ?_) (fun h4 => ?_)
      · refine J_mono (w_tsw C h4 (jd jdt_Mo_qPartOf 1 rfl) (by decide) (by decide) rfl rfl) ?_
        refine J_mono (w_aload_n C (jd jdt_Mo_qPartOf 13 rfl) rfl) ?_
        refine J_mono (jg_Mo_130 C hp0 (jd jdt_Mo_qPartOf 14 rfl)) ?_
        refine J_mono (w_bipush_6 C (jd jdt_Mo_qPartOf 15 rfl)) ?_
        refine J_mono (w_iload_n C (jd jdt_Mo_qPartOf 16 rfl) rfl) ?_
        refine J_mono (w_imul C (jd jdt_Mo_qPartOf 17 rfl)) ?_
        refine J_mono (w_iconst_1 C (jd jdt_Mo_qPartOf 18 rfl)) ?_
        refine J_mono (w_iadd C (jd jdt_Mo_qPartOf 19 rfl)) ?_
        refine J_bind (fun v5 hv5 => ?_)
        refine J_mono (w_iald C (jkf_12_61 hp0) hv5 (jd jdt_Mo_qPartOf 20 rfl)) ?_
        refine J_mono (w_i2l C (jd jdt_Mo_qPartOf 21 rfl)) ?_
        exact J_some (fun hx => hR v5.toInt64 hx _ _ (jd jdt_Mo_qPartOf 22 rfl) )
      · refine J_ite (fun h6 => ?_) (fun h6 => ?_)
        · refine J_mono (w_tsw C h6 (jd jdt_Mo_qPartOf 1 rfl) (by decide) (by decide) rfl rfl) ?_
          refine J_mono (w_aload_n C (jd jdt_Mo_qPartOf 23 rfl) rfl) ?_
          refine J_mono (jg_Mo_130 C hp0 (jd jdt_Mo_qPartOf 24 rfl)) ?_
          refine J_mono (w_bipush_6 C (jd jdt_Mo_qPartOf 25 rfl)) ?_
          refine J_mono (w_iload_n C (jd jdt_Mo_qPartOf 26 rfl) rfl) ?_
          refine J_mono (w_imul C (jd jdt_Mo_qPartOf 27 rfl)) ?_
          refine J_mono (w_iconst_2 C (jd jdt_Mo_qPartOf 28 rfl)) ?_
          refine J_mono (w_iadd C (jd jdt_Mo_qPartOf 29 rfl)) ?_
          refine J_bind (fun v7 hv7 => ?_)
          refine J_mono (w_iald C (jkf_12_61 hp0) hv7 (jd jdt_Mo_qPartOf 30 rfl)) ?_
          refine J_mono (w_i2l C (jd jdt_Mo_qPartOf 31 rfl)) ?_
          exact J_some (fun hx => hR v7.toInt64 hx _ _ (jd jdt_Mo_qPartOf 32 rfl) )
        · refine J_ite (fun h8 => ?_) (fun h8 => ?_)
          · refine J_mono (w_tsw C h8 (jd jdt_Mo_qPartOf 1 rfl) (by decide) (by decide) rfl rfl) ?_
            refine J_mono (w_aload_n C (jd jdt_Mo_qPartOf 33 rfl) rfl) ?_
            refine J_mono (jg_Mo_130 C hp0 (jd jdt_Mo_qPartOf 34 rfl)) ?_
            refine J_mono (w_bipush_6 C (jd jdt_Mo_qPartOf 35 rfl)) ?_
            refine J_mono (w_iload_n C (jd jdt_Mo_qPartOf 36 rfl) rfl) ?_
            refine J_mono (w_imul C (jd jdt_Mo_qPartOf 37 rfl)) ?_
            refine J_mono (w_iconst_3 C (jd jdt_Mo_qPartOf 38 rfl)) ?_
            refine J_mono (w_iadd C (jd jdt_Mo_qPartOf 39 rfl)) ?_
            refine J_bind (fun v9 hv9 => ?_)
            refine J_mono (w_iald C (jkf_12_61 hp0) hv9 (jd jdt_Mo_qPartOf 40 rfl)) ?_
            refine J_mono (w_i2l C (jd jdt_Mo_qPartOf 41 rfl)) ?_
            exact J_some (fun hx => hR v9.toInt64 hx _ _ (jd jdt_Mo_qPartOf 42 rfl) )
          · refine J_mono (w_tswd C (jd jdt_Mo_qPartOf 1 rfl) (fun k9 kA kB => by have kC : k9 = 0 ∨ k9 = 1 ∨ k9 = 2 ∨ k9 = 3 ∨ k9 = 4 := (by omega); rcases kC with rfl|rfl|rfl|rfl|rfl <;> first | exact h1 | exact h2 | exact h4 | exact h6 | exact h8) (by decide) (by decide) rfl) ?_
            refine J_mono (w_iload_n C (jd jdt_Mo_qPartOf 43 rfl) rfl) ?_
            refine J_br (w_if_ne (y := 0) C (jd jdt_Mo_qPartOf 44 rfl) rfl) (fun h10 => J_pos h10 ?_) (fun h10 => J_neg h10 ?_)
            · refine J_mono (w_lconst_0 C (jd jdt_Mo_qPartOf 45 rfl)) ?_
              refine J_mono (w_goto C (jd jdt_Mo_qPartOf 46 rfl) rfl) ?_
              exact J_some (fun hx => hR 0 hx _ _ (jd jdt_Mo_qPartOf 65 rfl) )
            · refine J_mono (w_aload_n C (jd jdt_Mo_qPartOf 47 rfl) rfl) ?_
              refine J_mono (jg_Mo_130 C hp0 (jd jdt_Mo_qPartOf 48 rfl)) ?_
              refine J_mono (w_bipush_6 C (jd jdt_Mo_qPartOf 49 rfl)) ?_
              refine J_mono (w_iload_n C (jd jdt_Mo_qPartOf 50 rfl) rfl) ?_
              refine J_mono (w_imul C (jd jdt_Mo_qPartOf 51 rfl)) ?_
              refine J_mono (w_iconst_5 C (jd jdt_Mo_qPartOf 52 rfl)) ?_
              refine J_mono (w_iadd C (jd jdt_Mo_qPartOf 53 rfl)) ?_
              refine J_bind (fun v11 hv11 => ?_)
              refine J_mono (w_iald C (jkf_12_61 hp0) hv11 (jd jdt_Mo_qPartOf 54 rfl)) ?_
              refine J_mono (w_aload_n C (jd jdt_Mo_qPartOf 55 rfl) rfl) ?_
              refine J_mono (jg_Mo_130 C hp0 (jd jdt_Mo_qPartOf 56 rfl)) ?_
              refine J_mono (w_bipush_6 C (jd jdt_Mo_qPartOf 57 rfl)) ?_
              refine J_mono (w_iload_n C (jd jdt_Mo_qPartOf 58 rfl) rfl) ?_
              refine J_mono (w_imul C (jd jdt_Mo_qPartOf 59 rfl)) ?_
              refine J_mono (w_iconst_1 C (jd jdt_Mo_qPartOf 60 rfl)) ?_
              refine J_mono (w_isub C (jd jdt_Mo_qPartOf 61 rfl)) ?_
              refine J_bind (fun v12 hv12 => ?_)
              refine J_mono (w_iald C (jkf_12_61 hp0) hv12 (jd jdt_Mo_qPartOf 62 rfl)) ?_
              refine J_mono (w_isub C (jd jdt_Mo_qPartOf 63 rfl)) ?_
              refine J_mono (w_i2l C (jd jdt_Mo_qPartOf 64 rfl)) ?_
              exact J_some (fun hx => hR (Int32.toInt64 (v11 - v12)) hx _ _ (jd jdt_Mo_qPartOf 65 rfl) )
end
theorem C_Mo_qPartOf (l : Launch) (G : JG) (F : jF G = false) (a0 : Nat) (a1 : Int32) (a2 : Int32) (hp0 : jkd a0 12) (M : SM) {q : Int64} (hf : f_Mo_qPartOf a0 a1 a2 M = some q) : jMet l jy_Mo_qPartOf jb_Mo_qPartOf 3 (some FieldType.long) 1 0 0 G [.ref a0, .int a1, .int a2] jN0 (jce G M) (some (.long q)) jN0 (jce G M) :=
  j_met jo_Mo_qPartOf (by decide) (Nat.le_of_ble_eq_true rfl) (fun p e s m args below meth c C hr hm => K_Mo_qPartOf C F (Nat.le_refl _) a0 a1 a2 hp0 M (fun t => t = q) (fun v hX pc ls hd => by cases hX; exact w_lret C hr hd) _ hf rfl)
def f_Mo_qFloor (a0 : Int64) (a1 : Int64) : Option Int64 := if a1 = 0 then (some 0) else (if a1 = 0 then none else (if a1 = 0 then none else (if (a0 - a0 / a1 * a1) = 0 then (some (a0 / a1)) else ((if a0 < 0 then (some 1) else (some 0) : Option (Int32)).bind fun q3 => (if a1 < 0 then (some 1) else (some 0) : Option (Int32)).bind fun q5 => if q3 = q5 then (some (a0 / a1)) else (some ((a0 / a1) - 1))))))
section
variable {p : Program} {l : Launch} {e : Env} {R : Room} {s : State} {m : MethodId} {args : Array Value} {below : List Frame} {meth : Method} {c : Code} {G : JG} {D : Nat} {Q : State → Prop}
set_option maxHeartbeats 4000000 in
set_option maxRecDepth 20000 in
theorem K_Mo_qFloor (C : jCx p R s m args meth c G jb_Mo_qFloor 6 D "SluicePitModel") (F : jF G = false) (hD : 1 ≤ D) (a0 : Int64) (a1 : Int64)  (M : SM) (X : Int64 → Prop) (hR : ∀ v, X v → ∀ (pc : Nat) (ls : List (Option Value)), decode jb_Mo_qFloor pc = .ok (.lreturn, 1) → Wk p l e R s m args below meth c G 6 Q 0 0 jN0 (jce G M) pc ls [.long v]) : J X (f_Mo_qFloor a0 a1) (Wk p l e R s m args below meth c G 6 Q 0 0 jN0 (jce G M) 0 [some (.long a0), none, some (.long a1), none, none, none] []) := by
  unfold f_Mo_qFloor
  refine J_mono (w_lload_n C (jd jdt_Mo_qFloor 0 rfl) rfl) ?_
  refine J_mono (w_lconst_0 C (jd jdt_Mo_qFloor 1 rfl)) ?_
  refine J_br (w_lcmp_ne C (jd jdt_Mo_qFloor 2 rfl) (jd jdt_Mo_qFloor 3 rfl) rfl) (fun h1 => J_pos h1 ?_) (fun h1 => J_neg h1 ?_)
  · refine J_mono (w_lconst_0 C (jd jdt_Mo_qFloor 4 rfl)) ?_
    exact J_some (fun hx => hR 0 hx _ _ (jd jdt_Mo_qFloor 5 rfl) )
  · refine J_mono (w_lload_n C (jd jdt_Mo_qFloor 6 rfl) rfl) ?_
    refine J_mono (w_lload_n C (jd jdt_Mo_qFloor 7 rfl) rfl) ?_
    refine J_div (fun h9 => ?_)
    refine J_mono (w_ldiv C (jd jdt_Mo_qFloor 8 rfl) h9) ?_
    refine J_mono (w_lstore (ls' := [some (.long a0), none, some (.long a1), none, some (.long (a0 / a1)), none]) C (jd jdt_Mo_qFloor 9 rfl) (by decide) rfl rfl) ?_
    refine J_mono (w_lload_n C (jd jdt_Mo_qFloor 10 rfl) rfl) ?_
    refine J_mono (w_lload_n C (jd jdt_Mo_qFloor 11 rfl) rfl) ?_
    refine J_div (fun h8 => ?_)
    refine J_mono (w_lrem C (jd jdt_Mo_qFloor 12 rfl) h8) ?_
    refine J_mono (w_lconst_0 C (jd jdt_Mo_qFloor 13 rfl)) ?_
    refine J_br (w_lcmp_eq C (jd jdt_Mo_qFloor 14 rfl) (jd jdt_Mo_qFloor 15 rfl) rfl) (fun h2 => J_pos h2 ?_) (fun h2 => J_neg h2 ?_)
    · refine J_mono (w_lload C (jd jdt_Mo_qFloor 35 rfl) rfl) ?_
      exact J_some (fun hx => hR (a0 / a1) hx _ _ (jd jdt_Mo_qFloor 36 rfl) )
    · refine J_mono (w_lload_n C (jd jdt_Mo_qFloor 16 rfl) rfl) ?_
      refine J_mono (w_lconst_0 C (jd jdt_Mo_qFloor 17 rfl)) ?_
      refine J_seq (fun (q3 : Int32) => Wk p l e R s m args below meth c G 6 Q 0 0 jN0 (jce G M) 32 [none, none, some (.long a1), none, some (.long (a0 / a1)), none] [.int q3]) ?_ (fun q3 hq3 => ?_)
      · refine J_br (w_lcmp_ge C (jd jdt_Mo_qFloor 18 rfl) (jd jdt_Mo_qFloor 19 rfl) rfl) (fun h4 => J_pos h4 ?_) (fun h4 => J_neg h4 ?_)
        · refine J_mono (w_iconst_1 C (jd jdt_Mo_qFloor 20 rfl)) ?_
          refine J_mono (w_goto C (jd jdt_Mo_qFloor 21 rfl) rfl) ?_
          exact J_some (fun hx => Wk_sb hx ⟨rfl, rfl, trivial⟩)
        · refine J_mono (w_iconst_0 C (jd jdt_Mo_qFloor 22 rfl)) ?_
          exact J_some (fun hx => Wk_sb hx ⟨rfl, rfl, trivial⟩)
      · refine J_mono (w_lload_n C (jd jdt_Mo_qFloor 23 rfl) rfl) ?_
        refine J_mono (w_lconst_0 C (jd jdt_Mo_qFloor 24 rfl)) ?_
        refine J_seq (fun (q5 : Int32) => Wk p l e R s m args below meth c G 6 Q 0 0 jN0 (jce G M) 43 [none, none, none, none, some (.long (a0 / a1)), none] [.int q5, .int q3]) ?_ (fun q5 hq5 => ?_)
        · refine J_br (w_lcmp_ge C (jd jdt_Mo_qFloor 25 rfl) (jd jdt_Mo_qFloor 26 rfl) rfl) (fun h6 => J_pos h6 ?_) (fun h6 => J_neg h6 ?_)
          · refine J_mono (w_iconst_1 C (jd jdt_Mo_qFloor 27 rfl)) ?_
            refine J_mono (w_goto C (jd jdt_Mo_qFloor 28 rfl) rfl) ?_
            exact J_some (fun hx => Wk_sb hx ⟨rfl, trivial⟩)
          · refine J_mono (w_iconst_0 C (jd jdt_Mo_qFloor 29 rfl)) ?_
            exact J_some (fun hx => Wk_sb hx ⟨rfl, trivial⟩)
        · refine J_br (w_icmp_eq C (jd jdt_Mo_qFloor 30 rfl) rfl) (fun h7 => J_pos h7 ?_) (fun h7 => J_neg h7 ?_)
          · refine J_mono (w_lload C (jd jdt_Mo_qFloor 35 rfl) rfl) ?_
            exact J_some (fun hx => hR (a0 / a1) hx _ _ (jd jdt_Mo_qFloor 36 rfl) )
          · refine J_mono (w_lload C (jd jdt_Mo_qFloor 31 rfl) rfl) ?_
            refine J_mono (w_lconst_1 C (jd jdt_Mo_qFloor 32 rfl)) ?_
            refine J_mono (w_lsub C (jd jdt_Mo_qFloor 33 rfl)) ?_
            refine J_mono (w_goto C (jd jdt_Mo_qFloor 34 rfl) rfl) ?_
            exact J_some (fun hx => hR ((a0 / a1) - 1) hx _ _ (jd jdt_Mo_qFloor 36 rfl) )
end
theorem C_Mo_qFloor (l : Launch) (G : JG) (F : jF G = false) (a0 : Int64) (a1 : Int64)  (M : SM) {q : Int64} (hf : f_Mo_qFloor a0 a1 = some q) : jMet l jy_Mo_qFloor jb_Mo_qFloor 6 (some FieldType.long) 1 0 0 G [.long a0, .long a1] jN0 (jce G M) (some (.long q)) jN0 (jce G M) :=
  j_met jo_Mo_qFloor (by decide) (Nat.le_of_ble_eq_true rfl) (fun p e s m args below meth c C hr hm => K_Mo_qFloor C F (Nat.le_refl _) a0 a1  M (fun t => t = q) (fun v hX pc ls hd => by cases hX; exact w_lret C hr hd) _ hf rfl)
def f_Mo_qJoins (a0 : Nat) (a1 : Int32) (M : SM) : Option SM := (aL M (jpf a0 94) ((M.1 a0 95) - 1)).bind fun v1 => (aL M (jpf a0 94) ((M.1 a0 95) - 2)).bind fun v2 => if a1 = 1 then ((f_Mo_qClip (v2 + v1)).bind fun q4 => (f_Mo_qPuts a0 q4 (sI M a0 95 ((M.1 a0 95) - 2))).bind fun q5 => some q5) else (if a1 = 2 then ((f_Mo_qClip (v2 - v1)).bind fun q7 => (f_Mo_qPuts a0 q7 (sI M a0 95 ((M.1 a0 95) - 2))).bind fun q8 => some q8) else (if a1 = 3 then ((f_Mo_qClip (v2 * v1)).bind fun q10 => (f_Mo_qPuts a0 q10 (sI M a0 95 ((M.1 a0 95) - 2))).bind fun q11 => some q11) else (if a1 = 4 then ((f_Mo_qFloor v2 v1).bind fun q13 => (f_Mo_qPuts a0 q13 (sI M a0 95 ((M.1 a0 95) - 2))).bind fun q14 => some q14) else (if a1 = 5 then ((if v2 < v1 then (some v2) else (some v1) : Option (Int64)).bind fun q16 => (f_Mo_qPuts a0 q16 (sI M a0 95 ((M.1 a0 95) - 2))).bind fun q18 => some q18) else (if a1 = 6 then ((if v1 < v2 then (some v2) else (some v1) : Option (Int64)).bind fun q20 => (f_Mo_qPuts a0 q20 (sI M a0 95 ((M.1 a0 95) - 2))).bind fun q22 => some q22) else (if a1 = 7 then ((if v2 < v1 then (some 1) else (some 0) : Option (Int64)).bind fun q24 => (f_Mo_qPuts a0 q24 (sI M a0 95 ((M.1 a0 95) - 2))).bind fun q26 => some q26) else (if a1 = 8 then ((if v1 < v2 then (some 1) else (some 0) : Option (Int64)).bind fun q28 => (f_Mo_qPuts a0 q28 (sI M a0 95 ((M.1 a0 95) - 2))).bind fun q30 => some q30) else (if a1 = 9 then ((if v2 = v1 then (some 1) else (some 0) : Option (Int64)).bind fun q32 => (f_Mo_qPuts a0 q32 (sI M a0 95 ((M.1 a0 95) - 2))).bind fun q34 => some q34) else (if a1 = 10 then ((f_Mo_qPuts a0 (v2 * v1) (sI M a0 95 ((M.1 a0 95) - 2))).bind fun q36 => some q36) else ((if 0 < (v2 + v1) then (some 1) else (some 0) : Option (Int64)).bind fun q37 => (f_Mo_qPuts a0 q37 (sI M a0 95 ((M.1 a0 95) - 2))).bind fun q39 => some q39))))))))))
section
variable {p : Program} {l : Launch} {e : Env} {R : Room} {s : State} {m : MethodId} {args : Array Value} {below : List Frame} {meth : Method} {c : Code} {G : JG} {D : Nat} {Q : State → Prop}
set_option maxHeartbeats 4000000 in
set_option maxRecDepth 20000 in
theorem K_Mo_qJoins (C : jCx p R s m args meth c G jb_Mo_qJoins 6 D "SluicePitModel") (F : jF G = false) (hD : 2 ≤ D) (a0 : Nat) (a1 : Int32) (hp0 : jkd a0 12) (M : SM) (X : SM → Prop) (hR : ∀ M', X M' → ∀ (pc : Nat) (ls : List (Option Value)), decode jb_Mo_qJoins pc = .ok (.return_, 1) → Wk p l e R s m args below meth c G 6 Q 0 0 jN0 (jce G M') pc ls []) : J X (f_Mo_qJoins a0 a1 M) (Wk p l e R s m args below meth c G 6 Q 0 0 jN0 (jce G M) 0 [some (.ref a0), some (.int a1), none, none, none, none] []) := by
  unfold f_Mo_qJoins
  refine J_mono (w_aload_n C (jd jdt_Mo_qJoins 0 rfl) rfl) ?_
  refine J_mono (jg_Mo_209 C hp0 (jd jdt_Mo_qJoins 1 rfl)) ?_
  refine J_mono (w_aload_n C (jd jdt_Mo_qJoins 2 rfl) rfl) ?_
  refine J_mono (jg_Mo_588 C hp0 (jd jdt_Mo_qJoins 3 rfl)) ?_
  refine J_mono (w_iconst_1 C (jd jdt_Mo_qJoins 4 rfl)) ?_
  refine J_mono (w_isub C (jd jdt_Mo_qJoins 5 rfl)) ?_
  refine J_bind (fun v1 hv1 => ?_)
  refine J_mono (w_lald C (jkf_12_94 hp0) hv1 (jd jdt_Mo_qJoins 6 rfl)) ?_
  refine J_mono (w_lstore_n (ls' := [some (.ref a0), some (.int a1), some (.long v1), none, none, none]) C (jd jdt_Mo_qJoins 7 rfl) (by decide) rfl rfl) ?_
  refine J_mono (w_aload_n C (jd jdt_Mo_qJoins 8 rfl) rfl) ?_
  refine J_mono (jg_Mo_209 C hp0 (jd jdt_Mo_qJoins 9 rfl)) ?_
  refine J_mono (w_aload_n C (jd jdt_Mo_qJoins 10 rfl) rfl) ?_
  refine J_mono (jg_Mo_588 C hp0 (jd jdt_Mo_qJoins 11 rfl)) ?_
  refine J_mono (w_iconst_2 C (jd jdt_Mo_qJoins 12 rfl)) ?_
  refine J_mono (w_isub C (jd jdt_Mo_qJoins 13 rfl)) ?_
  refine J_bind (fun v2 hv2 => ?_)
  refine J_mono (w_lald C (jkf_12_94 hp0) hv2 (jd jdt_Mo_qJoins 14 rfl)) ?_
  refine J_mono (w_lstore (ls' := [some (.ref a0), some (.int a1), some (.long v1), none, some (.long v2), none]) C (jd jdt_Mo_qJoins 15 rfl) (by decide) rfl rfl) ?_
  refine J_mono (w_aload_n C (jd jdt_Mo_qJoins 16 rfl) rfl) ?_
  refine J_mono (w_dup_r C (jd jdt_Mo_qJoins 17 rfl)) ?_
  refine J_mono (jg_Mo_588 C hp0 (jd jdt_Mo_qJoins 18 rfl)) ?_
  refine J_mono (w_iconst_2 C (jd jdt_Mo_qJoins 19 rfl)) ?_
  refine J_mono (w_isub C (jd jdt_Mo_qJoins 20 rfl)) ?_
  refine J_mono (jp_Mo_588 C F hp0 (jd jdt_Mo_qJoins 21 rfl)) ?_
  refine J_mono (w_iload_n C (jd jdt_Mo_qJoins 22 rfl) rfl) ?_
  refine J_ite (fun h3 => ?_) (fun h3 => ?_)
  · refine J_mono (w_tsw C h3 (jd jdt_Mo_qJoins 23 rfl) (by decide) (by decide) rfl rfl) ?_
    refine J_mono (w_aload_n C (jd jdt_Mo_qJoins 24 rfl) rfl) ?_
    refine J_mono (w_lload C (jd jdt_Mo_qJoins 25 rfl) rfl) ?_
    refine J_mono (w_lload_n C (jd jdt_Mo_qJoins 26 rfl) rfl) ?_
    refine J_mono (w_ladd C (jd jdt_Mo_qJoins 27 rfl)) ?_
    refine J_bind (fun q4 hq4 => ?_)
    refine J_mono (jc_Mo_591 C (C_Mo_qClip l G F (v2 + v1) (sI M a0 95 ((M.1 a0 95) - 2)) hq4) rfl (Nat.le_trans (Nat.le_of_ble_eq_true rfl : 1 + 1 ≤ 2) hD) (jd jdt_Mo_qJoins 28 rfl)) ?_
    refine J_bind (fun q5 hq5 => ?_)
    refine J_mono (jc_Mo_595 C hp0 (C_Mo_qPuts l G F a0 q4 hp0 (sI M a0 95 ((M.1 a0 95) - 2)) hq5) rfl (Nat.le_trans (Nat.le_of_ble_eq_true rfl : 1 + 1 ≤ 2) hD) (jd jdt_Mo_qJoins 29 rfl)) ?_
    refine J_mono (w_goto C (jd jdt_Mo_qJoins 30 rfl) rfl) ?_
    exact J_some (fun hx => hR q5 hx _ _ (jd jdt_Mo_qJoins 118 rfl))
  · refine J_ite (fun h6 => ?_) (fun h6 => ?_)
    · refine J_mono (w_tsw C h6 (jd jdt_Mo_qJoins 23 rfl) (by decide) (by decide) rfl rfl) ?_
      refine J_mono (w_aload_n C (jd jdt_Mo_qJoins 31 rfl) rfl) ?_
      refine J_mono (w_lload C (jd jdt_Mo_qJoins 32 rfl) rfl) ?_
      refine J_mono (w_lload_n C (jd jdt_Mo_qJoins 33 rfl) rfl) ?_
      refine J_mono (w_lsub C (jd jdt_Mo_qJoins 34 rfl)) ?_
      refine J_bind (fun q7 hq7 => ?_)
      refine J_mono (jc_Mo_591 C (C_Mo_qClip l G F (v2 - v1) (sI M a0 95 ((M.1 a0 95) - 2)) hq7) rfl (Nat.le_trans (Nat.le_of_ble_eq_true rfl : 1 + 1 ≤ 2) hD) (jd jdt_Mo_qJoins 35 rfl)) ?_
      refine J_bind (fun q8 hq8 => ?_)
      refine J_mono (jc_Mo_595 C hp0 (C_Mo_qPuts l G F a0 q7 hp0 (sI M a0 95 ((M.1 a0 95) - 2)) hq8) rfl (Nat.le_trans (Nat.le_of_ble_eq_true rfl : 1 + 1 ≤ 2) hD) (jd jdt_Mo_qJoins 36 rfl)) ?_
      refine J_mono (w_goto C (jd jdt_Mo_qJoins 37 rfl) rfl) ?_
      exact J_some (fun hx => hR q8 hx _ _ (jd jdt_Mo_qJoins 118 rfl))
    · refine J_ite (fun h9 => ?_) (fun h9 => ?_)
      · refine J_mono (w_tsw C h9 (jd jdt_Mo_qJoins 23 rfl) (by decide) (by decide) rfl rfl) ?_
        refine J_mono (w_aload_n C (jd jdt_Mo_qJoins 38 rfl) rfl) ?_
        refine J_mono (w_lload C (jd jdt_Mo_qJoins 39 rfl) rfl) ?_
        refine J_mono (w_lload_n C (jd jdt_Mo_qJoins 40 rfl) rfl) ?_
        refine J_mono (w_lmul C (jd jdt_Mo_qJoins 41 rfl)) ?_
        refine J_bind (fun q10 hq10 => ?_)
        refine J_mono (jc_Mo_591 C (C_Mo_qClip l G F (v2 * v1) (sI M a0 95 ((M.1 a0 95) - 2)) hq10) rfl (Nat.le_trans (Nat.le_of_ble_eq_true rfl : 1 + 1 ≤ 2) hD) (jd jdt_Mo_qJoins 42 rfl)) ?_
        refine J_bind (fun q11 hq11 => ?_)
        refine J_mono (jc_Mo_595 C hp0 (C_Mo_qPuts l G F a0 q10 hp0 (sI M a0 95 ((M.1 a0 95) - 2)) hq11) rfl (Nat.le_trans (Nat.le_of_ble_eq_true rfl : 1 + 1 ≤ 2) hD) (jd jdt_Mo_qJoins 43 rfl)) ?_
        refine J_mono (w_goto C (jd jdt_Mo_qJoins 44 rfl) rfl) ?_
        exact J_some (fun hx => hR q11 hx _ _ (jd jdt_Mo_qJoins 118 rfl))
      · refine J_ite (fun h12 => ?_) (fun h12 => ?_)
        · refine J_mono (w_tsw C h12 (jd jdt_Mo_qJoins 23 rfl) (by decide) (by decide) rfl rfl) ?_
          refine J_mono (w_aload_n C (jd jdt_Mo_qJoins 45 rfl) rfl) ?_
          refine J_mono (w_lload C (jd jdt_Mo_qJoins 46 rfl) rfl) ?_
          refine J_mono (w_lload_n C (jd jdt_Mo_qJoins 47 rfl) rfl) ?_
          refine J_bind (fun q13 hq13 => ?_)
          refine J_mono (jc_Mo_599 C (C_Mo_qFloor l G F v2 v1 (sI M a0 95 ((M.1 a0 95) - 2)) hq13) rfl (Nat.le_trans (Nat.le_of_ble_eq_true rfl : 1 + 1 ≤ 2) hD) (jd jdt_Mo_qJoins 48 rfl)) ?_
          refine J_bind (fun q14 hq14 => ?_)
          refine J_mono (jc_Mo_595 C hp0 (C_Mo_qPuts l G F a0 q13 hp0 (sI M a0 95 ((M.1 a0 95) - 2)) hq14) rfl (Nat.le_trans (Nat.le_of_ble_eq_true rfl : 1 + 1 ≤ 2) hD) (jd jdt_Mo_qJoins 49 rfl)) ?_
          refine J_mono (w_goto C (jd jdt_Mo_qJoins 50 rfl) rfl) ?_
          exact J_some (fun hx => hR q14 hx _ _ (jd jdt_Mo_qJoins 118 rfl))
        · refine J_ite (fun h15 => ?_) (fun h15 => ?_)
          · refine J_mono (w_tsw C h15 (jd jdt_Mo_qJoins 23 rfl) (by decide) (by decide) rfl rfl) ?_
            refine J_mono (w_aload_n C (jd jdt_Mo_qJoins 51 rfl) rfl) ?_
            refine J_mono (w_lload C (jd jdt_Mo_qJoins 52 rfl) rfl) ?_
            refine J_mono (w_lload_n C (jd jdt_Mo_qJoins 53 rfl) rfl) ?_
            refine J_seq (fun (q16 : Int64) => Wk p l e R s m args below meth c G 6 Q 0 0 jN0 (jce G (sI M a0 95 ((M.1 a0 95) - 2))) 161 [none, none, none, none, none, none] [.long q16, .ref a0]) ?_ (fun q16 hq16 => ?_)
            · refine J_br (w_lcmp_ge C (jd jdt_Mo_qJoins 54 rfl) (jd jdt_Mo_qJoins 55 rfl) rfl) (fun h17 => J_pos h17 ?_) (fun h17 => J_neg h17 ?_)
              · refine J_mono (w_lload C (jd jdt_Mo_qJoins 56 rfl) rfl) ?_
                refine J_mono (w_goto C (jd jdt_Mo_qJoins 57 rfl) rfl) ?_
                exact J_some (fun hx => Wk_sb hx trivial)
              · refine J_mono (w_lload_n C (jd jdt_Mo_qJoins 58 rfl) rfl) ?_
                exact J_some (fun hx => Wk_sb hx trivial)
            · refine J_bind (fun q18 hq18 => ?_)
              refine J_mono (jc_Mo_595 C hp0 (C_Mo_qPuts l G F a0 q16 hp0 (sI M a0 95 ((M.1 a0 95) - 2)) hq18) rfl (Nat.le_trans (Nat.le_of_ble_eq_true rfl : 1 + 1 ≤ 2) hD) (jd jdt_Mo_qJoins 59 rfl)) ?_
              refine J_mono (w_goto C (jd jdt_Mo_qJoins 60 rfl) rfl) ?_
              exact J_some (fun hx => hR q18 hx _ _ (jd jdt_Mo_qJoins 118 rfl))
          · refine J_ite (fun h19 => ?_) (fun h19 => ?_)
            · refine J_mono (w_tsw C h19 (jd jdt_Mo_qJoins 23 rfl) (by decide) (by decide) rfl rfl) ?_
              refine J_mono (w_aload_n C (jd jdt_Mo_qJoins 61 rfl) rfl) ?_
              refine J_mono (w_lload C (jd jdt_Mo_qJoins 62 rfl) rfl) ?_
              refine J_mono (w_lload_n C (jd jdt_Mo_qJoins 63 rfl) rfl) ?_
              refine J_seq (fun (q20 : Int64) => Wk p l e R s m args below meth c G 6 Q 0 0 jN0 (jce G (sI M a0 95 ((M.1 a0 95) - 2))) 181 [none, none, none, none, none, none] [.long q20, .ref a0]) ?_ (fun q20 hq20 => ?_)
              · refine J_br (w_lcmp_le C (jd jdt_Mo_qJoins 64 rfl) (jd jdt_Mo_qJoins 65 rfl) rfl) (fun h21 => J_pos h21 ?_) (fun h21 => J_neg h21 ?_)
                · refine J_mono (w_lload C (jd jdt_Mo_qJoins 66 rfl) rfl) ?_
                  refine J_mono (w_goto C (jd jdt_Mo_qJoins 67 rfl) rfl) ?_
                  exact J_some (fun hx => Wk_sb hx trivial)
                · refine J_mono (w_lload_n C (jd jdt_Mo_qJoins 68 rfl) rfl) ?_
                  exact J_some (fun hx => Wk_sb hx trivial)
              · refine J_bind (fun q22 hq22 => ?_)
                refine J_mono (jc_Mo_595 C hp0 (C_Mo_qPuts l G F a0 q20 hp0 (sI M a0 95 ((M.1 a0 95) - 2)) hq22) rfl (Nat.le_trans (Nat.le_of_ble_eq_true rfl : 1 + 1 ≤ 2) hD) (jd jdt_Mo_qJoins 69 rfl)) ?_
                refine J_mono (w_goto C (jd jdt_Mo_qJoins 70 rfl) rfl) ?_
                exact J_some (fun hx => hR q22 hx _ _ (jd jdt_Mo_qJoins 118 rfl))
            · refine J_ite (fun h23 => ?_) (fun h23 => ?_)
              · refine J_mono (w_tsw C h23 (jd jdt_Mo_qJoins 23 rfl) (by decide) (by decide) rfl rfl) ?_
                refine J_mono (w_aload_n C (jd jdt_Mo_qJoins 71 rfl) rfl) ?_
                refine J_mono (w_lload C (jd jdt_Mo_qJoins 72 rfl) rfl) ?_
                refine J_mono (w_lload_n C (jd jdt_Mo_qJoins 73 rfl) rfl) ?_
                refine J_seq (fun (q24 : Int64) => Wk p l e R s m args below meth c G 6 Q 0 0 jN0 (jce G (sI M a0 95 ((M.1 a0 95) - 2))) 200 [none, none, none, none, none, none] [.long q24, .ref a0]) ?_ (fun q24 hq24 => ?_)
                · refine J_br (w_lcmp_ge C (jd jdt_Mo_qJoins 74 rfl) (jd jdt_Mo_qJoins 75 rfl) rfl) (fun h25 => J_pos h25 ?_) (fun h25 => J_neg h25 ?_)
                  · refine J_mono (w_lconst_1 C (jd jdt_Mo_qJoins 76 rfl)) ?_
                    refine J_mono (w_goto C (jd jdt_Mo_qJoins 77 rfl) rfl) ?_
                    exact J_some (fun hx => Wk_sb hx trivial)
                  · refine J_mono (w_lconst_0 C (jd jdt_Mo_qJoins 78 rfl)) ?_
                    exact J_some (fun hx => Wk_sb hx trivial)
                · refine J_bind (fun q26 hq26 => ?_)
                  refine J_mono (jc_Mo_595 C hp0 (C_Mo_qPuts l G F a0 q24 hp0 (sI M a0 95 ((M.1 a0 95) - 2)) hq26) rfl (Nat.le_trans (Nat.le_of_ble_eq_true rfl : 1 + 1 ≤ 2) hD) (jd jdt_Mo_qJoins 79 rfl)) ?_
                  refine J_mono (w_goto C (jd jdt_Mo_qJoins 80 rfl) rfl) ?_
                  exact J_some (fun hx => hR q26 hx _ _ (jd jdt_Mo_qJoins 118 rfl))
              · refine J_ite (fun h27 => ?_) (fun h27 => ?_)
                · refine J_mono (w_tsw C h27 (jd jdt_Mo_qJoins 23 rfl) (by decide) (by decide) rfl rfl) ?_
                  refine J_mono (w_aload_n C (jd jdt_Mo_qJoins 81 rfl) rfl) ?_
                  refine J_mono (w_lload C (jd jdt_Mo_qJoins 82 rfl) rfl) ?_
                  refine J_mono (w_lload_n C (jd jdt_Mo_qJoins 83 rfl) rfl) ?_
                  refine J_seq (fun (q28 : Int64) => Wk p l e R s m args below meth c G 6 Q 0 0 jN0 (jce G (sI M a0 95 ((M.1 a0 95) - 2))) 219 [none, none, none, none, none, none] [.long q28, .ref a0]) ?_ (fun q28 hq28 => ?_)
                  · refine J_br (w_lcmp_le C (jd jdt_Mo_qJoins 84 rfl) (jd jdt_Mo_qJoins 85 rfl) rfl) (fun h29 => J_pos h29 ?_) (fun h29 => J_neg h29 ?_)
                    · refine J_mono (w_lconst_1 C (jd jdt_Mo_qJoins 86 rfl)) ?_
                      refine J_mono (w_goto C (jd jdt_Mo_qJoins 87 rfl) rfl) ?_
                      exact J_some (fun hx => Wk_sb hx trivial)
                    · refine J_mono (w_lconst_0 C (jd jdt_Mo_qJoins 88 rfl)) ?_
                      exact J_some (fun hx => Wk_sb hx trivial)
                  · refine J_bind (fun q30 hq30 => ?_)
                    refine J_mono (jc_Mo_595 C hp0 (C_Mo_qPuts l G F a0 q28 hp0 (sI M a0 95 ((M.1 a0 95) - 2)) hq30) rfl (Nat.le_trans (Nat.le_of_ble_eq_true rfl : 1 + 1 ≤ 2) hD) (jd jdt_Mo_qJoins 89 rfl)) ?_
                    refine J_mono (w_goto C (jd jdt_Mo_qJoins 90 rfl) rfl) ?_
                    exact J_some (fun hx => hR q30 hx _ _ (jd jdt_Mo_qJoins 118 rfl))
                · refine J_ite (fun h31 => ?_) (fun h31 => ?_)
                  · refine J_mono (w_tsw C h31 (jd jdt_Mo_qJoins 23 rfl) (by decide) (by decide) rfl rfl) ?_
                    refine J_mono (w_aload_n C (jd jdt_Mo_qJoins 91 rfl) rfl) ?_
                    refine J_mono (w_lload C (jd jdt_Mo_qJoins 92 rfl) rfl) ?_
                    refine J_mono (w_lload_n C (jd jdt_Mo_qJoins 93 rfl) rfl) ?_
                    refine J_seq (fun (q32 : Int64) => Wk p l e R s m args below meth c G 6 Q 0 0 jN0 (jce G (sI M a0 95 ((M.1 a0 95) - 2))) 238 [none, none, none, none, none, none] [.long q32, .ref a0]) ?_ (fun q32 hq32 => ?_)
                    · refine J_br (w_lcmp_ne C (jd jdt_Mo_qJoins 94 rfl) (jd jdt_Mo_qJoins 95 rfl) rfl) (fun h33 => J_pos h33 ?_) (fun h33 => J_neg h33 ?_)
                      · refine J_mono (w_lconst_1 C (jd jdt_Mo_qJoins 96 rfl)) ?_
                        refine J_mono (w_goto C (jd jdt_Mo_qJoins 97 rfl) rfl) ?_
                        exact J_some (fun hx => Wk_sb hx trivial)
                      · refine J_mono (w_lconst_0 C (jd jdt_Mo_qJoins 98 rfl)) ?_
                        exact J_some (fun hx => Wk_sb hx trivial)
                    · refine J_bind (fun q34 hq34 => ?_)
                      refine J_mono (jc_Mo_595 C hp0 (C_Mo_qPuts l G F a0 q32 hp0 (sI M a0 95 ((M.1 a0 95) - 2)) hq34) rfl (Nat.le_trans (Nat.le_of_ble_eq_true rfl : 1 + 1 ≤ 2) hD) (jd jdt_Mo_qJoins 99 rfl)) ?_
                      refine J_mono (w_goto C (jd jdt_Mo_qJoins 100 rfl) rfl) ?_
                      exact J_some (fun hx => hR q34 hx _ _ (jd jdt_Mo_qJoins 118 rfl))
                  · refine J_ite (fun h35 => ?_) (fun h35 => ?_)
                    · refine J_mono (w_tsw C h35 (jd jdt_Mo_qJoins 23 rfl) (by decide) (by decide) rfl rfl) ?_
                      refine J_mono (w_aload_n C (jd jdt_Mo_qJoins 101 rfl) rfl) ?_
                      refine J_mono (w_lload C (jd jdt_Mo_qJoins 102 rfl) rfl) ?_
                      refine J_mono (w_lload_n C (jd jdt_Mo_qJoins 103 rfl) rfl) ?_
                      refine J_mono (w_lmul C (jd jdt_Mo_qJoins 104 rfl)) ?_
                      refine J_bind (fun q36 hq36 => ?_)
                      refine J_mono (jc_Mo_595 C hp0 (C_Mo_qPuts l G F a0 (v2 * v1) hp0 (sI M a0 95 ((M.1 a0 95) - 2)) hq36) rfl (Nat.le_trans (Nat.le_of_ble_eq_true rfl : 1 + 1 ≤ 2) hD) (jd jdt_Mo_qJoins 105 rfl)) ?_
                      refine J_mono (w_goto C (jd jdt_Mo_qJoins 106 rfl) rfl) ?_
                      exact J_some (fun hx => hR q36 hx _ _ (jd jdt_Mo_qJoins 118 rfl))
                    · refine J_mono (w_tswd C (jd jdt_Mo_qJoins 23 rfl) (fun k9 kA kB => by have kC : k9 = 1 ∨ k9 = 2 ∨ k9 = 3 ∨ k9 = 4 ∨ k9 = 5 ∨ k9 = 6 ∨ k9 = 7 ∨ k9 = 8 ∨ k9 = 9 ∨ k9 = 10 := (by omega); rcases kC with rfl|rfl|rfl|rfl|rfl|rfl|rfl|rfl|rfl|rfl <;> first | exact h3 | exact h6 | exact h9 | exact h12 | exact h15 | exact h19 | exact h23 | exact h27 | exact h31 | exact h35) (by decide) (by decide) rfl) ?_
                      refine J_mono (w_aload_n C (jd jdt_Mo_qJoins 107 rfl) rfl) ?_
                      refine J_mono (w_lload C (jd jdt_Mo_qJoins 108 rfl) rfl) ?_
                      refine J_mono (w_lload_n C (jd jdt_Mo_qJoins 109 rfl) rfl) ?_
                      refine J_mono (w_ladd C (jd jdt_Mo_qJoins 110 rfl)) ?_
                      refine J_mono (w_lconst_0 C (jd jdt_Mo_qJoins 111 rfl)) ?_
                      refine J_seq (fun (q37 : Int64) => Wk p l e R s m args below meth c G 6 Q 0 0 jN0 (jce G (sI M a0 95 ((M.1 a0 95) - 2))) 270 [none, none, none, none, none, none] [.long q37, .ref a0]) ?_ (fun q37 hq37 => ?_)
                      · refine J_br (w_lcmp_le C (jd jdt_Mo_qJoins 112 rfl) (jd jdt_Mo_qJoins 113 rfl) rfl) (fun h38 => J_pos h38 ?_) (fun h38 => J_neg h38 ?_)
                        · refine J_mono (w_lconst_1 C (jd jdt_Mo_qJoins 114 rfl)) ?_
                          refine J_mono (w_goto C (jd jdt_Mo_qJoins 115 rfl) rfl) ?_
                          exact J_some (fun hx => Wk_sb hx trivial)
                        · refine J_mono (w_lconst_0 C (jd jdt_Mo_qJoins 116 rfl)) ?_
                          exact J_some (fun hx => Wk_sb hx trivial)
                      · refine J_bind (fun q39 hq39 => ?_)
                        refine J_mono (jc_Mo_595 C hp0 (C_Mo_qPuts l G F a0 q37 hp0 (sI M a0 95 ((M.1 a0 95) - 2)) hq39) rfl (Nat.le_trans (Nat.le_of_ble_eq_true rfl : 1 + 1 ≤ 2) hD) (jd jdt_Mo_qJoins 117 rfl)) ?_
                        exact J_some (fun hx => hR q39 hx _ _ (jd jdt_Mo_qJoins 118 rfl))
end
theorem C_Mo_qJoins (l : Launch) (G : JG) (F : jF G = false) (a0 : Nat) (a1 : Int32) (hp0 : jkd a0 12) (M : SM) {q : SM} (hf : f_Mo_qJoins a0 a1 M = some q) : jMet l jy_Mo_qJoins jb_Mo_qJoins 6 none 2 0 0 G [.ref a0, .int a1] jN0 (jce G M) none jN0 (jce G q) :=
  j_met jo_Mo_qJoins (by decide) (Nat.le_of_ble_eq_true rfl) (fun p e s m args below meth c C hr hm => K_Mo_qJoins C F (Nat.le_refl _) a0 a1 hp0 M (fun t => t = q) (fun M' hX pc ls hd => by cases hX; exact w_vret C hr hd) _ hf rfl)
def lp_Mo_qTold_7 (y0 : Nat) (y1 : Int32) : Nat → Int32 → SM → Option (SM)
  | 0, _, _ => none
  | n + 1, x2, M => if x2 < (M.1 y0 89) then ((aI M (jpf y0 88) x2).bind fun v2 => (if v2 < 1000 then (if v2 < 60 then (if v2 < 40 then (if v2 = 13 then ((f_Mo_qPuts y0 1 M).bind fun q8 => some q8) else (if v2 = 12 then ((aL M (jpf y0 94) ((M.1 y0 95) - 1)).bind fun v10 => (aSL M (jpf y0 94) ((M.1 y0 95) - 1) (1 - v10)).bind fun M11 => some M11) else ((f_Mo_qJoins y0 v2 M).bind fun q12 => some q12))) else ((f_Mo_qPartOf y0 (v2 - 40) y1 M).bind fun q13 => (f_Mo_qClip q13).bind fun q14 => (f_Mo_qPuts y0 q14 M).bind fun q15 => some q15)) else ((aL M (jpf y0 94) ((M.1 y0 95) - 1)).bind fun v16 => (f_Mo_qOf y0 (v2 - 60) v16 y1 M).bind fun q17 => (f_Mo_qClip q17).bind fun q18 => (aSL M (jpf y0 94) ((M.1 y0 95) - 1) q18).bind fun M19 => some M19)) else ((f_Mo_qPuts y0 (Int32.toInt64 (v2 - 1000)) M).bind fun q20 => some q20) : Option (SM)).bind fun q3 => lp_Mo_qTold_7 y0 y1 n (x2 + 1) q3) else (some M)
def f_Mo_qTold (a0 : Nat) (a1 : Int32) (M : SM) : Option (Int64 × SM) := (lp_Mo_qTold_7 a0 a1 jfuel 0 (sI M a0 95 0)).bind fun q21 => (aL q21 (jpf a0 94) 0).bind fun v22 => some (v22, q21)
section
variable {p : Program} {l : Launch} {e : Env} {R : Room} {s : State} {m : MethodId} {args : Array Value} {below : List Frame} {meth : Method} {c : Code} {G : JG} {D : Nat} {Q : State → Prop}
set_option maxHeartbeats 4000000 in
set_option maxRecDepth 20000 in
theorem K_Mo_qTold (C : jCx p R s m args meth c G jb_Mo_qTold 4 D "SluicePitModel") (F : jF G = false) (hD : 3 ≤ D) (a0 : Nat) (a1 : Int32) (hp0 : jkd a0 12) (M : SM) (X : (Int64 × SM) → Prop) (hR : ∀ v M', X (v, M') → ∀ (pc : Nat) (ls : List (Option Value)), decode jb_Mo_qTold pc = .ok (.lreturn, 1) → Wk p l e R s m args below meth c G 4 Q 0 0 jN0 (jce G M') pc ls [.long v]) : J X (f_Mo_qTold a0 a1 M) (Wk p l e R s m args below meth c G 4 Q 0 0 jN0 (jce G M) 0 [some (.ref a0), some (.int a1), none, none] []) := by
  unfold f_Mo_qTold
  refine J_mono (w_aload_n C (jd jdt_Mo_qTold 0 rfl) rfl) ?_
  refine J_mono (w_iconst_0 C (jd jdt_Mo_qTold 1 rfl)) ?_
  refine J_mono (jp_Mo_588 C F hp0 (jd jdt_Mo_qTold 2 rfl)) ?_
  refine J_mono (w_iconst_0 C (jd jdt_Mo_qTold 3 rfl)) ?_
  refine J_mono (w_istore_n (ls' := [some (.ref a0), some (.int a1), some (.int 0), none]) C (jd jdt_Mo_qTold 4 rfl) (by decide) rfl rfl) ?_
  have L7 : ∀ (y0 : Nat) (y1 : Int32) (hy0 : jkd y0 12) (n : Nat) (x2 : Int32) (M : SM), J (fun (q21 : SM) => Wk p l e R s m args below meth c G 4 Q 0 0 jN0 (jce G q21) 168 [some (.ref y0), none, none, none] []) (lp_Mo_qTold_7 y0 y1 n x2 M) (Wk p l e R s m args below meth c G 4 Q 0 0 jN0 (jce G M) 7 [some (.ref y0), some (.int y1), some (.int x2), none] []) := by
    intro y0 y1 hy0 n
    induction n with
    | zero => intro x2 M; exact J_none
    | succ n ih =>
      intro x2 M
      unfold lp_Mo_qTold_7
      refine J_mono (w_iload_n C (jd jdt_Mo_qTold 5 rfl) rfl) ?_
      refine J_mono (w_aload_n C (jd jdt_Mo_qTold 6 rfl) rfl) ?_
      refine J_mono (jg_Mo_518 C hy0 (jd jdt_Mo_qTold 7 rfl)) ?_
      refine J_br (w_icmp_ge C (jd jdt_Mo_qTold 8 rfl) rfl) (fun h1 => J_pos h1 ?_) (fun h1 => J_neg h1 ?_)
      · refine J_mono (w_aload_n C (jd jdt_Mo_qTold 9 rfl) rfl) ?_
        refine J_mono (jg_Mo_203 C hy0 (jd jdt_Mo_qTold 10 rfl)) ?_
        refine J_mono (w_iload_n C (jd jdt_Mo_qTold 11 rfl) rfl) ?_
        refine J_bind (fun v2 hv2 => ?_)
        refine J_mono (w_iald C (jkf_12_88 hy0) hv2 (jd jdt_Mo_qTold 12 rfl)) ?_
        refine J_mono (w_istore_n (ls' := [some (.ref y0), some (.int y1), some (.int x2), some (.int v2)]) C (jd jdt_Mo_qTold 13 rfl) (by decide) rfl rfl) ?_
        refine J_mono (w_iload_n C (jd jdt_Mo_qTold 14 rfl) rfl) ?_
        refine J_mono (w_sipush_1000 C (jd jdt_Mo_qTold 15 rfl)) ?_
        refine J_seq (fun (q3 : SM) => Wk p l e R s m args below meth c G 4 Q 0 0 jN0 (jce G q3) 162 [some (.ref y0), some (.int y1), some (.int x2), none] []) ?_ (fun q3 hq3 => ?_)
        · refine J_br (w_icmp_lt C (jd jdt_Mo_qTold 16 rfl) rfl) (fun h4 => J_pos h4 ?_) (fun h4 => J_neg h4 ?_)
          · refine J_mono (w_iload_n C (jd jdt_Mo_qTold 24 rfl) rfl) ?_
            refine J_mono (w_bipush_60 C (jd jdt_Mo_qTold 25 rfl)) ?_
            refine J_br (w_icmp_lt C (jd jdt_Mo_qTold 26 rfl) rfl) (fun h5 => J_pos h5 ?_) (fun h5 => J_neg h5 ?_)
            · refine J_mono (w_iload_n C (jd jdt_Mo_qTold 49 rfl) rfl) ?_
              refine J_mono (w_bipush_40 C (jd jdt_Mo_qTold 50 rfl)) ?_
              refine J_br (w_icmp_lt C (jd jdt_Mo_qTold 51 rfl) rfl) (fun h6 => J_pos h6 ?_) (fun h6 => J_neg h6 ?_)
              · refine J_mono (w_iload_n C (jd jdt_Mo_qTold 62 rfl) rfl) ?_
                refine J_mono (w_bipush_13 C (jd jdt_Mo_qTold 63 rfl)) ?_
                refine J_br (w_icmp_ne C (jd jdt_Mo_qTold 64 rfl) rfl) (fun h7 => J_pos h7 ?_) (fun h7 => J_neg h7 ?_)
                · refine J_mono (w_aload_n C (jd jdt_Mo_qTold 65 rfl) rfl) ?_
                  refine J_mono (w_lconst_1 C (jd jdt_Mo_qTold 66 rfl)) ?_
                  refine J_bind (fun q8 hq8 => ?_)
                  refine J_mono (jc_Mo_595 C hy0 (C_Mo_qPuts l G F y0 1 hy0 M hq8) rfl (Nat.le_trans (Nat.le_of_ble_eq_true rfl : 1 + 1 ≤ 3) hD) (jd jdt_Mo_qTold 67 rfl)) ?_
                  refine J_mono (w_goto C (jd jdt_Mo_qTold 68 rfl) rfl) ?_
                  exact J_some (fun hx => Wk_sb hx ⟨rfl, rfl, rfl, trivial⟩)
                · refine J_mono (w_iload_n C (jd jdt_Mo_qTold 69 rfl) rfl) ?_
                  refine J_mono (w_bipush_12 C (jd jdt_Mo_qTold 70 rfl)) ?_
                  refine J_br (w_icmp_ne C (jd jdt_Mo_qTold 71 rfl) rfl) (fun h9 => J_pos h9 ?_) (fun h9 => J_neg h9 ?_)
                  · refine J_mono (w_aload_n C (jd jdt_Mo_qTold 72 rfl) rfl) ?_
                    refine J_mono (jg_Mo_209 C hy0 (jd jdt_Mo_qTold 73 rfl)) ?_
                    refine J_mono (w_aload_n C (jd jdt_Mo_qTold 74 rfl) rfl) ?_
                    refine J_mono (jg_Mo_588 C hy0 (jd jdt_Mo_qTold 75 rfl)) ?_
                    refine J_mono (w_iconst_1 C (jd jdt_Mo_qTold 76 rfl)) ?_
                    refine J_mono (w_isub C (jd jdt_Mo_qTold 77 rfl)) ?_
                    refine J_mono (w_lconst_1 C (jd jdt_Mo_qTold 78 rfl)) ?_
                    refine J_mono (w_aload_n C (jd jdt_Mo_qTold 79 rfl) rfl) ?_
                    refine J_mono (jg_Mo_209 C hy0 (jd jdt_Mo_qTold 80 rfl)) ?_
                    refine J_mono (w_aload_n C (jd jdt_Mo_qTold 81 rfl) rfl) ?_
                    refine J_mono (jg_Mo_588 C hy0 (jd jdt_Mo_qTold 82 rfl)) ?_
                    refine J_mono (w_iconst_1 C (jd jdt_Mo_qTold 83 rfl)) ?_
                    refine J_mono (w_isub C (jd jdt_Mo_qTold 84 rfl)) ?_
                    refine J_bind (fun v10 hv10 => ?_)
                    refine J_mono (w_lald C (jkf_12_94 hy0) hv10 (jd jdt_Mo_qTold 85 rfl)) ?_
                    refine J_mono (w_lsub C (jd jdt_Mo_qTold 86 rfl)) ?_
                    refine J_bind (fun M11 hM11 => ?_)
                    refine J_mono (w_last C F (jkf_12_94 hy0) hM11 (jd jdt_Mo_qTold 87 rfl)) ?_
                    refine J_mono (w_goto C (jd jdt_Mo_qTold 88 rfl) rfl) ?_
                    exact J_some (fun hx => Wk_sb hx ⟨rfl, rfl, rfl, trivial⟩)
                  · refine J_mono (w_aload_n C (jd jdt_Mo_qTold 89 rfl) rfl) ?_
                    refine J_mono (w_iload_n C (jd jdt_Mo_qTold 90 rfl) rfl) ?_
                    refine J_bind (fun q12 hq12 => ?_)
                    refine J_mono (jc_Mo_611 C hy0 (C_Mo_qJoins l G F y0 v2 hy0 M hq12) rfl (Nat.le_trans (Nat.le_of_ble_eq_true rfl : 2 + 1 ≤ 3) hD) (jd jdt_Mo_qTold 91 rfl)) ?_
                    exact J_some (fun hx => Wk_sb hx ⟨rfl, rfl, rfl, trivial⟩)
              · refine J_mono (w_aload_n C (jd jdt_Mo_qTold 52 rfl) rfl) ?_
                refine J_mono (w_aload_n C (jd jdt_Mo_qTold 53 rfl) rfl) ?_
                refine J_mono (w_iload_n C (jd jdt_Mo_qTold 54 rfl) rfl) ?_
                refine J_mono (w_bipush_40 C (jd jdt_Mo_qTold 55 rfl)) ?_
                refine J_mono (w_isub C (jd jdt_Mo_qTold 56 rfl)) ?_
                refine J_mono (w_iload_n C (jd jdt_Mo_qTold 57 rfl) rfl) ?_
                refine J_bind (fun q13 hq13 => ?_)
                refine J_mono (jc_Mo_607 C hy0 (C_Mo_qPartOf l G F y0 (v2 - 40) y1 hy0 M hq13) rfl (Nat.le_trans (Nat.le_of_ble_eq_true rfl : 1 + 1 ≤ 3) hD) (jd jdt_Mo_qTold 58 rfl)) ?_
                refine J_bind (fun q14 hq14 => ?_)
                refine J_mono (jc_Mo_591 C (C_Mo_qClip l G F q13 M hq14) rfl (Nat.le_trans (Nat.le_of_ble_eq_true rfl : 1 + 1 ≤ 3) hD) (jd jdt_Mo_qTold 59 rfl)) ?_
                refine J_bind (fun q15 hq15 => ?_)
                refine J_mono (jc_Mo_595 C hy0 (C_Mo_qPuts l G F y0 q14 hy0 M hq15) rfl (Nat.le_trans (Nat.le_of_ble_eq_true rfl : 1 + 1 ≤ 3) hD) (jd jdt_Mo_qTold 60 rfl)) ?_
                refine J_mono (w_goto C (jd jdt_Mo_qTold 61 rfl) rfl) ?_
                exact J_some (fun hx => Wk_sb hx ⟨rfl, rfl, rfl, trivial⟩)
            · refine J_mono (w_aload_n C (jd jdt_Mo_qTold 27 rfl) rfl) ?_
              refine J_mono (jg_Mo_209 C hy0 (jd jdt_Mo_qTold 28 rfl)) ?_
              refine J_mono (w_aload_n C (jd jdt_Mo_qTold 29 rfl) rfl) ?_
              refine J_mono (jg_Mo_588 C hy0 (jd jdt_Mo_qTold 30 rfl)) ?_
              refine J_mono (w_iconst_1 C (jd jdt_Mo_qTold 31 rfl)) ?_
              refine J_mono (w_isub C (jd jdt_Mo_qTold 32 rfl)) ?_
              refine J_mono (w_aload_n C (jd jdt_Mo_qTold 33 rfl) rfl) ?_
              refine J_mono (w_iload_n C (jd jdt_Mo_qTold 34 rfl) rfl) ?_
              refine J_mono (w_bipush_60 C (jd jdt_Mo_qTold 35 rfl)) ?_
              refine J_mono (w_isub C (jd jdt_Mo_qTold 36 rfl)) ?_
              refine J_mono (w_aload_n C (jd jdt_Mo_qTold 37 rfl) rfl) ?_
              refine J_mono (jg_Mo_209 C hy0 (jd jdt_Mo_qTold 38 rfl)) ?_
              refine J_mono (w_aload_n C (jd jdt_Mo_qTold 39 rfl) rfl) ?_
              refine J_mono (jg_Mo_588 C hy0 (jd jdt_Mo_qTold 40 rfl)) ?_
              refine J_mono (w_iconst_1 C (jd jdt_Mo_qTold 41 rfl)) ?_
              refine J_mono (w_isub C (jd jdt_Mo_qTold 42 rfl)) ?_
              refine J_bind (fun v16 hv16 => ?_)
              refine J_mono (w_lald C (jkf_12_94 hy0) hv16 (jd jdt_Mo_qTold 43 rfl)) ?_
              refine J_mono (w_iload_n C (jd jdt_Mo_qTold 44 rfl) rfl) ?_
              refine J_bind (fun q17 hq17 => ?_)
              refine J_mono (jc_Mo_603 C hy0 (C_Mo_qOf l G F y0 (v2 - 60) v16 y1 hy0 M hq17) rfl (Nat.le_trans (Nat.le_of_ble_eq_true rfl : 2 + 1 ≤ 3) hD) (jd jdt_Mo_qTold 45 rfl)) ?_
              refine J_bind (fun q18 hq18 => ?_)
              refine J_mono (jc_Mo_591 C (C_Mo_qClip l G F q17 M hq18) rfl (Nat.le_trans (Nat.le_of_ble_eq_true rfl : 1 + 1 ≤ 3) hD) (jd jdt_Mo_qTold 46 rfl)) ?_
              refine J_bind (fun M19 hM19 => ?_)
              refine J_mono (w_last C F (jkf_12_94 hy0) hM19 (jd jdt_Mo_qTold 47 rfl)) ?_
              refine J_mono (w_goto C (jd jdt_Mo_qTold 48 rfl) rfl) ?_
              exact J_some (fun hx => Wk_sb hx ⟨rfl, rfl, rfl, trivial⟩)
          · refine J_mono (w_aload_n C (jd jdt_Mo_qTold 17 rfl) rfl) ?_
            refine J_mono (w_iload_n C (jd jdt_Mo_qTold 18 rfl) rfl) ?_
            refine J_mono (w_sipush_1000 C (jd jdt_Mo_qTold 19 rfl)) ?_
            refine J_mono (w_isub C (jd jdt_Mo_qTold 20 rfl)) ?_
            refine J_mono (w_i2l C (jd jdt_Mo_qTold 21 rfl)) ?_
            refine J_bind (fun q20 hq20 => ?_)
            refine J_mono (jc_Mo_595 C hy0 (C_Mo_qPuts l G F y0 (Int32.toInt64 (v2 - 1000)) hy0 M hq20) rfl (Nat.le_trans (Nat.le_of_ble_eq_true rfl : 1 + 1 ≤ 3) hD) (jd jdt_Mo_qTold 22 rfl)) ?_
            refine J_mono (w_goto C (jd jdt_Mo_qTold 23 rfl) rfl) ?_
            exact J_some (fun hx => Wk_sb hx ⟨rfl, rfl, rfl, trivial⟩)
        · refine J_mono (w_iinc (v := x2 + 1) (ls' := [some (.ref y0), some (.int y1), some (.int (x2 + 1)), none]) C (jd jdt_Mo_qTold 92 rfl) rfl rfl (by decide) rfl rfl) ?_
          refine J_mono (w_goto C (jd jdt_Mo_qTold 93 rfl) rfl) ?_
          exact J_sub (ih (x2 + 1) q3) ⟨rfl, rfl, rfl, trivial⟩
      · exact J_some (fun hx => Wk_sb hx ⟨rfl, trivial⟩)
  refine J_seq (fun (q21 : SM) => Wk p l e R s m args below meth c G 4 Q 0 0 jN0 (jce G q21) 168 [some (.ref a0), none, none, none] []) (J_sub (L7 a0 a1 hp0 jfuel 0 (sI M a0 95 0)) ⟨rfl, rfl, rfl, trivial⟩) (fun q21 hq21 => ?_)
  refine J_mono (w_aload_n C (jd jdt_Mo_qTold 94 rfl) rfl) ?_
  refine J_mono (jg_Mo_209 C hp0 (jd jdt_Mo_qTold 95 rfl)) ?_
  refine J_mono (w_iconst_0 C (jd jdt_Mo_qTold 96 rfl)) ?_
  refine J_bind (fun v22 hv22 => ?_)
  refine J_mono (w_lald C (jkf_12_94 hp0) hv22 (jd jdt_Mo_qTold 97 rfl)) ?_
  exact J_some (fun hx => hR v22 q21 hx _ _ (jd jdt_Mo_qTold 98 rfl) )
end
theorem C_Mo_qTold (l : Launch) (G : JG) (F : jF G = false) (a0 : Nat) (a1 : Int32) (hp0 : jkd a0 12) (M : SM) {q : (Int64 × SM)} (hf : f_Mo_qTold a0 a1 M = some q) : jMet l jy_Mo_qTold jb_Mo_qTold 4 (some FieldType.long) 3 0 0 G [.ref a0, .int a1] jN0 (jce G M) (some (.long q.1)) jN0 (jce G q.2) :=
  j_met jo_Mo_qTold (by decide) (Nat.le_of_ble_eq_true rfl) (fun p e s m args below meth c C hr hm => K_Mo_qTold C F (Nat.le_refl _) a0 a1 hp0 M (fun t => t = q) (fun v M' hX pc ls hd => by cases hX; exact w_lret C hr hd) _ hf rfl)
def f_Mo_qTakes (a0 : Nat) (a1 : Int32) (a2 : Int64) (a3 : Int32) (M : SM) : Option SM := (if a1 < 3 then (if a2 = 1 then (some 1) else (some 0)) else (some 0) : Option (Int32)).bind fun q1 => (if a1 = 0 then (if q1 = 0 then (if a1 = 1 then (if q1 = 0 then (some M) else (some (sL M a0 96 a3.toInt64))) else (some M)) else (if (M.2 a0 96) = (-1) then (some (sL M a0 96 a3.toInt64)) else (if a1 = 1 then (if q1 = 0 then (some M) else (some (sL M a0 96 a3.toInt64))) else (some M)))) else (if a1 = 1 then (if q1 = 0 then (some M) else (some (sL M a0 96 a3.toInt64))) else (some M)) : Option (SM)).bind fun q4 => (if a1 = 2 then (if q1 = 0 then (some q4) else (some (sL q4 a0 96 ((q4.2 a0 96) + 1)))) else (some q4) : Option (SM)).bind fun q14 => (if a1 = 3 then (some (sL q14 a0 96 ((q14.2 a0 96) + a2))) else (some q14) : Option (SM)).bind fun q17 => if 3 < a1 then (if (q17.1 a0 97) = 0 then (if a1 = 4 then (if (q17.2 a0 96) < a2 then (some (sI (sL q17 a0 96 a2) a0 97 0)) else (some (sI q17 a0 97 0))) else (if a2 < (q17.2 a0 96) then (some (sI (sL q17 a0 96 a2) a0 97 0)) else (some (sI q17 a0 97 0)))) else (some (sI (sL q17 a0 96 a2) a0 97 0))) else (some (sI q17 a0 97 0))
section
variable {p : Program} {l : Launch} {e : Env} {R : Room} {s : State} {m : MethodId} {args : Array Value} {below : List Frame} {meth : Method} {c : Code} {G : JG} {D : Nat} {Q : State → Prop}
set_option maxHeartbeats 4000000 in
set_option maxRecDepth 20000 in
theorem K_Mo_qTakes (C : jCx p R s m args meth c G jb_Mo_qTakes 6 D "SluicePitModel") (F : jF G = false) (hD : 1 ≤ D) (a0 : Nat) (a1 : Int32) (a2 : Int64) (a3 : Int32) (hp0 : jkd a0 12) (M : SM) (X : SM → Prop) (hR : ∀ M', X M' → ∀ (pc : Nat) (ls : List (Option Value)), decode jb_Mo_qTakes pc = .ok (.return_, 1) → Wk p l e R s m args below meth c G 6 Q 0 0 jN0 (jce G M') pc ls []) : J X (f_Mo_qTakes a0 a1 a2 a3 M) (Wk p l e R s m args below meth c G 6 Q 0 0 jN0 (jce G M) 0 [some (.ref a0), some (.int a1), some (.long a2), none, some (.int a3), none] []) := by
  unfold f_Mo_qTakes
  refine J_mono (w_iload_n C (jd jdt_Mo_qTakes 0 rfl) rfl) ?_
  refine J_mono (w_iconst_3 C (jd jdt_Mo_qTakes 1 rfl)) ?_
  refine J_seq (fun (q1 : Int32) => Wk p l e R s m args below meth c G 6 Q 0 0 jN0 (jce G M) 16 [some (.ref a0), some (.int a1), some (.long a2), none, some (.int a3), none] [.int q1]) ?_ (fun q1 hq1 => ?_)
  · refine J_br (w_icmp_ge C (jd jdt_Mo_qTakes 2 rfl) rfl) (fun h2 => J_pos h2 ?_) (fun h2 => J_neg h2 ?_)
    · refine J_mono (w_lload_n C (jd jdt_Mo_qTakes 3 rfl) rfl) ?_
      refine J_mono (w_lconst_1 C (jd jdt_Mo_qTakes 4 rfl)) ?_
      refine J_br (w_lcmp_ne C (jd jdt_Mo_qTakes 5 rfl) (jd jdt_Mo_qTakes 6 rfl) rfl) (fun h3 => J_pos h3 ?_) (fun h3 => J_neg h3 ?_)
      · refine J_mono (w_iconst_1 C (jd jdt_Mo_qTakes 7 rfl)) ?_
        refine J_mono (w_goto C (jd jdt_Mo_qTakes 8 rfl) rfl) ?_
        exact J_some (fun hx => Wk_sb hx ⟨rfl, rfl, rfl, rfl, trivial⟩)
      · refine J_mono (w_iconst_0 C (jd jdt_Mo_qTakes 9 rfl)) ?_
        exact J_some (fun hx => Wk_sb hx ⟨rfl, rfl, rfl, rfl, trivial⟩)
    · refine J_mono (w_iconst_0 C (jd jdt_Mo_qTakes 9 rfl)) ?_
      exact J_some (fun hx => Wk_sb hx ⟨rfl, rfl, rfl, rfl, trivial⟩)
  · refine J_mono (w_istore (ls' := [some (.ref a0), some (.int a1), some (.long a2), none, some (.int a3), some (.int q1)]) C (jd jdt_Mo_qTakes 10 rfl) (by decide) rfl rfl) ?_
    refine J_mono (w_iload_n C (jd jdt_Mo_qTakes 11 rfl) rfl) ?_
    refine J_seq (fun (q4 : SM) => Wk p l e R s m args below meth c G 6 Q 0 0 jN0 (jce G q4) 55 [some (.ref a0), some (.int a1), some (.long a2), none, none, some (.int q1)] []) ?_ (fun q4 hq4 => ?_)
    · refine J_br (w_if_ne (y := 0) C (jd jdt_Mo_qTakes 12 rfl) rfl) (fun h5 => J_pos h5 ?_) (fun h5 => J_neg h5 ?_)
      · refine J_mono (w_iload C (jd jdt_Mo_qTakes 13 rfl) rfl) ?_
        refine J_br (w_if_eq (y := 0) C (jd jdt_Mo_qTakes 14 rfl) rfl) (fun h6 => J_pos h6 ?_) (fun h6 => J_neg h6 ?_)
        · refine J_mono (w_iload_n C (jd jdt_Mo_qTakes 20 rfl) rfl) ?_
          refine J_mono (w_iconst_1 C (jd jdt_Mo_qTakes 21 rfl)) ?_
          refine J_br (w_icmp_ne C (jd jdt_Mo_qTakes 22 rfl) rfl) (fun h7 => J_pos h7 ?_) (fun h7 => J_neg h7 ?_)
          · refine J_mono (w_iload C (jd jdt_Mo_qTakes 23 rfl) rfl) ?_
            refine J_br (w_if_eq (y := 0) C (jd jdt_Mo_qTakes 24 rfl) rfl) (fun h8 => J_pos h8 ?_) (fun h8 => J_neg h8 ?_)
            · exact J_some (fun hx => Wk_sb hx ⟨rfl, rfl, rfl, rfl, trivial⟩)
            · refine J_mono (w_aload_n C (jd jdt_Mo_qTakes 25 rfl) rfl) ?_
              refine J_mono (w_iload C (jd jdt_Mo_qTakes 26 rfl) rfl) ?_
              refine J_mono (w_i2l C (jd jdt_Mo_qTakes 27 rfl)) ?_
              refine J_mono (jp_Mo_614 C F hp0 (jd jdt_Mo_qTakes 28 rfl)) ?_
              exact J_some (fun hx => Wk_sb hx ⟨rfl, rfl, rfl, rfl, trivial⟩)
          · exact J_some (fun hx => Wk_sb hx ⟨rfl, rfl, rfl, rfl, trivial⟩)
        · refine J_mono (w_aload_n C (jd jdt_Mo_qTakes 15 rfl) rfl) ?_
          refine J_mono (jg_Mo_614 C hp0 (jd jdt_Mo_qTakes 16 rfl)) ?_
          refine J_mono (w_ldc2 C (jd jdt_Mo_qTakes 17 rfl) jw_1690) ?_
          refine J_br (w_lcmp_eq C (jd jdt_Mo_qTakes 18 rfl) (jd jdt_Mo_qTakes 19 rfl) rfl) (fun h9 => J_pos h9 ?_) (fun h9 => J_neg h9 ?_)
          · refine J_mono (w_aload_n C (jd jdt_Mo_qTakes 25 rfl) rfl) ?_
            refine J_mono (w_iload C (jd jdt_Mo_qTakes 26 rfl) rfl) ?_
            refine J_mono (w_i2l C (jd jdt_Mo_qTakes 27 rfl)) ?_
            refine J_mono (jp_Mo_614 C F hp0 (jd jdt_Mo_qTakes 28 rfl)) ?_
            exact J_some (fun hx => Wk_sb hx ⟨rfl, rfl, rfl, rfl, trivial⟩)
          · refine J_mono (w_iload_n C (jd jdt_Mo_qTakes 20 rfl) rfl) ?_
            refine J_mono (w_iconst_1 C (jd jdt_Mo_qTakes 21 rfl)) ?_
            refine J_br (w_icmp_ne C (jd jdt_Mo_qTakes 22 rfl) rfl) (fun h10 => J_pos h10 ?_) (fun h10 => J_neg h10 ?_)
            · refine J_mono (w_iload C (jd jdt_Mo_qTakes 23 rfl) rfl) ?_
              refine J_br (w_if_eq (y := 0) C (jd jdt_Mo_qTakes 24 rfl) rfl) (fun h11 => J_pos h11 ?_) (fun h11 => J_neg h11 ?_)
              · exact J_some (fun hx => Wk_sb hx ⟨rfl, rfl, rfl, rfl, trivial⟩)
              · refine J_mono (w_aload_n C (jd jdt_Mo_qTakes 25 rfl) rfl) ?_
                refine J_mono (w_iload C (jd jdt_Mo_qTakes 26 rfl) rfl) ?_
                refine J_mono (w_i2l C (jd jdt_Mo_qTakes 27 rfl)) ?_
                refine J_mono (jp_Mo_614 C F hp0 (jd jdt_Mo_qTakes 28 rfl)) ?_
                exact J_some (fun hx => Wk_sb hx ⟨rfl, rfl, rfl, rfl, trivial⟩)
            · exact J_some (fun hx => Wk_sb hx ⟨rfl, rfl, rfl, rfl, trivial⟩)
      · refine J_mono (w_iload_n C (jd jdt_Mo_qTakes 20 rfl) rfl) ?_
        refine J_mono (w_iconst_1 C (jd jdt_Mo_qTakes 21 rfl)) ?_
        refine J_br (w_icmp_ne C (jd jdt_Mo_qTakes 22 rfl) rfl) (fun h12 => J_pos h12 ?_) (fun h12 => J_neg h12 ?_)
        · refine J_mono (w_iload C (jd jdt_Mo_qTakes 23 rfl) rfl) ?_
          refine J_br (w_if_eq (y := 0) C (jd jdt_Mo_qTakes 24 rfl) rfl) (fun h13 => J_pos h13 ?_) (fun h13 => J_neg h13 ?_)
          · exact J_some (fun hx => Wk_sb hx ⟨rfl, rfl, rfl, rfl, trivial⟩)
          · refine J_mono (w_aload_n C (jd jdt_Mo_qTakes 25 rfl) rfl) ?_
            refine J_mono (w_iload C (jd jdt_Mo_qTakes 26 rfl) rfl) ?_
            refine J_mono (w_i2l C (jd jdt_Mo_qTakes 27 rfl)) ?_
            refine J_mono (jp_Mo_614 C F hp0 (jd jdt_Mo_qTakes 28 rfl)) ?_
            exact J_some (fun hx => Wk_sb hx ⟨rfl, rfl, rfl, rfl, trivial⟩)
        · exact J_some (fun hx => Wk_sb hx ⟨rfl, rfl, rfl, rfl, trivial⟩)
    · refine J_mono (w_iload_n C (jd jdt_Mo_qTakes 29 rfl) rfl) ?_
      refine J_mono (w_iconst_2 C (jd jdt_Mo_qTakes 30 rfl)) ?_
      refine J_seq (fun (q14 : SM) => Wk p l e R s m args below meth c G 6 Q 0 0 jN0 (jce G q14) 75 [some (.ref a0), some (.int a1), some (.long a2), none, none, none] []) ?_ (fun q14 hq14 => ?_)
      · refine J_br (w_icmp_ne C (jd jdt_Mo_qTakes 31 rfl) rfl) (fun h15 => J_pos h15 ?_) (fun h15 => J_neg h15 ?_)
        · refine J_mono (w_iload C (jd jdt_Mo_qTakes 32 rfl) rfl) ?_
          refine J_br (w_if_eq (y := 0) C (jd jdt_Mo_qTakes 33 rfl) rfl) (fun h16 => J_pos h16 ?_) (fun h16 => J_neg h16 ?_)
          · exact J_some (fun hx => Wk_sb hx ⟨rfl, rfl, rfl, trivial⟩)
          · refine J_mono (w_aload_n C (jd jdt_Mo_qTakes 34 rfl) rfl) ?_
            refine J_mono (w_dup_r C (jd jdt_Mo_qTakes 35 rfl)) ?_
            refine J_mono (jg_Mo_614 C hp0 (jd jdt_Mo_qTakes 36 rfl)) ?_
            refine J_mono (w_lconst_1 C (jd jdt_Mo_qTakes 37 rfl)) ?_
            refine J_mono (w_ladd C (jd jdt_Mo_qTakes 38 rfl)) ?_
            refine J_mono (jp_Mo_614 C F hp0 (jd jdt_Mo_qTakes 39 rfl)) ?_
            exact J_some (fun hx => Wk_sb hx ⟨rfl, rfl, rfl, trivial⟩)
        · exact J_some (fun hx => Wk_sb hx ⟨rfl, rfl, rfl, trivial⟩)
      · refine J_mono (w_iload_n C (jd jdt_Mo_qTakes 40 rfl) rfl) ?_
        refine J_mono (w_iconst_3 C (jd jdt_Mo_qTakes 41 rfl)) ?_
        refine J_seq (fun (q17 : SM) => Wk p l e R s m args below meth c G 6 Q 0 0 jN0 (jce G q17) 90 [some (.ref a0), some (.int a1), some (.long a2), none, none, none] []) ?_ (fun q17 hq17 => ?_)
        · refine J_br (w_icmp_ne C (jd jdt_Mo_qTakes 42 rfl) rfl) (fun h18 => J_pos h18 ?_) (fun h18 => J_neg h18 ?_)
          · refine J_mono (w_aload_n C (jd jdt_Mo_qTakes 43 rfl) rfl) ?_
            refine J_mono (w_dup_r C (jd jdt_Mo_qTakes 44 rfl)) ?_
            refine J_mono (jg_Mo_614 C hp0 (jd jdt_Mo_qTakes 45 rfl)) ?_
            refine J_mono (w_lload_n C (jd jdt_Mo_qTakes 46 rfl) rfl) ?_
            refine J_mono (w_ladd C (jd jdt_Mo_qTakes 47 rfl)) ?_
            refine J_mono (jp_Mo_614 C F hp0 (jd jdt_Mo_qTakes 48 rfl)) ?_
            exact J_some (fun hx => Wk_sb hx ⟨rfl, rfl, rfl, trivial⟩)
          · exact J_some (fun hx => Wk_sb hx ⟨rfl, rfl, rfl, trivial⟩)
        · refine J_mono (w_iload_n C (jd jdt_Mo_qTakes 49 rfl) rfl) ?_
          refine J_mono (w_iconst_3 C (jd jdt_Mo_qTakes 50 rfl)) ?_
          refine J_br (w_icmp_le C (jd jdt_Mo_qTakes 51 rfl) rfl) (fun h19 => J_pos h19 ?_) (fun h19 => J_neg h19 ?_)
          · refine J_mono (w_aload_n C (jd jdt_Mo_qTakes 52 rfl) rfl) ?_
            refine J_mono (jg_Mo_617 C hp0 (jd jdt_Mo_qTakes 53 rfl)) ?_
            refine J_br (w_if_ne (y := 0) C (jd jdt_Mo_qTakes 54 rfl) rfl) (fun h20 => J_pos h20 ?_) (fun h20 => J_neg h20 ?_)
            · refine J_mono (w_iload_n C (jd jdt_Mo_qTakes 55 rfl) rfl) ?_
              refine J_mono (w_iconst_4 C (jd jdt_Mo_qTakes 56 rfl)) ?_
              refine J_br (w_icmp_ne C (jd jdt_Mo_qTakes 57 rfl) rfl) (fun h21 => J_pos h21 ?_) (fun h21 => J_neg h21 ?_)
              · refine J_mono (w_lload_n C (jd jdt_Mo_qTakes 58 rfl) rfl) ?_
                refine J_mono (w_aload_n C (jd jdt_Mo_qTakes 59 rfl) rfl) ?_
                refine J_mono (jg_Mo_614 C hp0 (jd jdt_Mo_qTakes 60 rfl)) ?_
                refine J_br (w_lcmp_le C (jd jdt_Mo_qTakes 61 rfl) (jd jdt_Mo_qTakes 62 rfl) rfl) (fun h22 => J_pos h22 ?_) (fun h22 => J_neg h22 ?_)
                · refine J_mono (w_goto C (jd jdt_Mo_qTakes 63 rfl) rfl) ?_
                  refine J_mono (w_aload_n C (jd jdt_Mo_qTakes 69 rfl) rfl) ?_
                  refine J_mono (w_lload_n C (jd jdt_Mo_qTakes 70 rfl) rfl) ?_
                  refine J_mono (jp_Mo_614 C F hp0 (jd jdt_Mo_qTakes 71 rfl)) ?_
                  refine J_mono (w_aload_n C (jd jdt_Mo_qTakes 72 rfl) rfl) ?_
                  refine J_mono (w_iconst_0 C (jd jdt_Mo_qTakes 73 rfl)) ?_
                  refine J_mono (jp_Mo_617 C F hp0 (Or.inl rfl) (jd jdt_Mo_qTakes 74 rfl)) ?_
                  exact J_some (fun hx => hR (sI (sL q17 a0 96 a2) a0 97 0) hx _ _ (jd jdt_Mo_qTakes 75 rfl))
                · refine J_mono (w_aload_n C (jd jdt_Mo_qTakes 72 rfl) rfl) ?_
                  refine J_mono (w_iconst_0 C (jd jdt_Mo_qTakes 73 rfl)) ?_
                  refine J_mono (jp_Mo_617 C F hp0 (Or.inl rfl) (jd jdt_Mo_qTakes 74 rfl)) ?_
                  exact J_some (fun hx => hR (sI q17 a0 97 0) hx _ _ (jd jdt_Mo_qTakes 75 rfl))
              · refine J_mono (w_lload_n C (jd jdt_Mo_qTakes 64 rfl) rfl) ?_
                refine J_mono (w_aload_n C (jd jdt_Mo_qTakes 65 rfl) rfl) ?_
                refine J_mono (jg_Mo_614 C hp0 (jd jdt_Mo_qTakes 66 rfl)) ?_
                refine J_br (w_lcmp_ge C (jd jdt_Mo_qTakes 67 rfl) (jd jdt_Mo_qTakes 68 rfl) rfl) (fun h23 => J_pos h23 ?_) (fun h23 => J_neg h23 ?_)
                · refine J_mono (w_aload_n C (jd jdt_Mo_qTakes 69 rfl) rfl) ?_
                  refine J_mono (w_lload_n C (jd jdt_Mo_qTakes 70 rfl) rfl) ?_
                  refine J_mono (jp_Mo_614 C F hp0 (jd jdt_Mo_qTakes 71 rfl)) ?_
                  refine J_mono (w_aload_n C (jd jdt_Mo_qTakes 72 rfl) rfl) ?_
                  refine J_mono (w_iconst_0 C (jd jdt_Mo_qTakes 73 rfl)) ?_
                  refine J_mono (jp_Mo_617 C F hp0 (Or.inl rfl) (jd jdt_Mo_qTakes 74 rfl)) ?_
                  exact J_some (fun hx => hR (sI (sL q17 a0 96 a2) a0 97 0) hx _ _ (jd jdt_Mo_qTakes 75 rfl))
                · refine J_mono (w_aload_n C (jd jdt_Mo_qTakes 72 rfl) rfl) ?_
                  refine J_mono (w_iconst_0 C (jd jdt_Mo_qTakes 73 rfl)) ?_
                  refine J_mono (jp_Mo_617 C F hp0 (Or.inl rfl) (jd jdt_Mo_qTakes 74 rfl)) ?_
                  exact J_some (fun hx => hR (sI q17 a0 97 0) hx _ _ (jd jdt_Mo_qTakes 75 rfl))
            · refine J_mono (w_aload_n C (jd jdt_Mo_qTakes 69 rfl) rfl) ?_
              refine J_mono (w_lload_n C (jd jdt_Mo_qTakes 70 rfl) rfl) ?_
              refine J_mono (jp_Mo_614 C F hp0 (jd jdt_Mo_qTakes 71 rfl)) ?_
              refine J_mono (w_aload_n C (jd jdt_Mo_qTakes 72 rfl) rfl) ?_
              refine J_mono (w_iconst_0 C (jd jdt_Mo_qTakes 73 rfl)) ?_
              refine J_mono (jp_Mo_617 C F hp0 (Or.inl rfl) (jd jdt_Mo_qTakes 74 rfl)) ?_
              exact J_some (fun hx => hR (sI (sL q17 a0 96 a2) a0 97 0) hx _ _ (jd jdt_Mo_qTakes 75 rfl))
          · refine J_mono (w_aload_n C (jd jdt_Mo_qTakes 72 rfl) rfl) ?_
            refine J_mono (w_iconst_0 C (jd jdt_Mo_qTakes 73 rfl)) ?_
            refine J_mono (jp_Mo_617 C F hp0 (Or.inl rfl) (jd jdt_Mo_qTakes 74 rfl)) ?_
            exact J_some (fun hx => hR (sI q17 a0 97 0) hx _ _ (jd jdt_Mo_qTakes 75 rfl))
end
theorem C_Mo_qTakes (l : Launch) (G : JG) (F : jF G = false) (a0 : Nat) (a1 : Int32) (a2 : Int64) (a3 : Int32) (hp0 : jkd a0 12) (M : SM) {q : SM} (hf : f_Mo_qTakes a0 a1 a2 a3 M = some q) : jMet l jy_Mo_qTakes jb_Mo_qTakes 6 none 1 0 0 G [.ref a0, .int a1, .long a2, .int a3] jN0 (jce G M) none jN0 (jce G q) :=
  j_met jo_Mo_qTakes (by decide) (Nat.le_of_ble_eq_true rfl) (fun p e s m args below meth c C hr hm => K_Mo_qTakes C F (Nat.le_refl _) a0 a1 a2 a3 hp0 M (fun t => t = q) (fun M' hX pc ls hd => by cases hX; exact w_vret C hr hd) _ hf rfl)
def lp_Mo_ask_178 (y0 : Nat) (y1 : Int32) : Nat → Int32 → SM → Option (SM)
  | 0, _, _ => none
  | n + 1, x2, M => if 60 < x2 then (some M) else ((f_Mo_qTold y0 x2 M).bind fun q20 => (f_Mo_qTakes y0 y1 q20.1 x2 q20.2).bind fun q21 => lp_Mo_ask_178 y0 y1 n (x2 + 1) q21)
def f_Mo_ask (a0 : Nat) (M : SM) : Option (Int64 × SM) := if (M.1 a0 31) = 0 then (some ((-1000000000000000), sI M a0 1 0)) else ((f_Mo_qKind a0 (sI (sI (sI (sI (sI (sI (sI (sI (sI (sI M a0 3 (M.1 a0 1)) a0 1 0) a0 2 0) a0 4 (-1)) a0 5 0) a0 6 (-1)) a0 89 0) a0 91 0) a0 92 0) a0 93 0)).bind fun q2 => (if (q2.2.1 a0 5) = 0 then (if q2.1 < 3 then ((f_Mo_qTest a0 q2.2).bind fun q6 => some q6) else (if (q2.2.1 a0 5) = 0 then ((f_Mo_qSums a0 q2.2).bind fun q8 => some q8) else (some q2.2))) else (if (q2.2.1 a0 5) = 0 then ((f_Mo_qSums a0 q2.2).bind fun q10 => some q10) else (some q2.2)) : Option (SM)).bind fun q3 => (if (q3.1 a0 5) = 0 then ((f_Mo_look a0 q3).bind fun q13 => if q13.1 = (-1) then (some q13.2) else ((f_Mo_fail a0 1 (q13.2.1 a0 2) q13.2).bind fun q15 => some q15)) else (some q3) : Option (SM)).bind fun q11 => if ((sI (sI q11 a0 7 (q11.1 a0 5)) a0 8 ((sI q11 a0 7 (q11.1 a0 5)).1 a0 6)).1 a0 5) = 0 then ((if q2.1 < 2 then (some (-1)) else (some 0) : Option (Int64)).bind fun q17 => (lp_Mo_ask_178 a0 q2.1 jfuel 0 (sI (sL (sI (sI q11 a0 7 (q11.1 a0 5)) a0 8 ((sI q11 a0 7 (q11.1 a0 5)).1 a0 6)) a0 96 q17) a0 97 1)).bind fun q22 => some (q22.2 a0 96, q22)) else (some ((-1000000000000000), sI (sI q11 a0 7 (q11.1 a0 5)) a0 8 ((sI q11 a0 7 (q11.1 a0 5)).1 a0 6))))
section
variable {p : Program} {l : Launch} {e : Env} {R : Room} {s : State} {m : MethodId} {args : Array Value} {below : List Frame} {meth : Method} {c : Code} {G : JG} {D : Nat} {Q : State → Prop}
set_option maxHeartbeats 4000000 in
set_option maxRecDepth 20000 in
theorem K_Mo_ask (C : jCx p R s m args meth c G jb_Mo_ask 3 D "SluicePitModel") (F : jF G = false) (hD : 10 ≤ D) (a0 : Nat) (hp0 : jkd a0 12) (M : SM) (X : (Int64 × SM) → Prop) (hR : ∀ v M', X (v, M') → ∀ (pc : Nat) (ls : List (Option Value)), decode jb_Mo_ask pc = .ok (.lreturn, 1) → Wk p l e R s m args below meth c G 3 Q 0 0 jN0 (jce G M') pc ls [.long v]) : J X (f_Mo_ask a0 M) (Wk p l e R s m args below meth c G 3 Q 0 0 jN0 (jce G M) 0 [some (.ref a0), none, none] []) := by
  unfold f_Mo_ask
  refine J_mono (w_aload_n C (jd jdt_Mo_ask 0 rfl) rfl) ?_
  refine J_mono (jg_Mo_367 C hp0 (jd jdt_Mo_ask 1 rfl)) ?_
  refine J_br (w_if_ne (y := 0) C (jd jdt_Mo_ask 2 rfl) rfl) (fun h1 => J_pos h1 ?_) (fun h1 => J_neg h1 ?_)
  · refine J_mono (w_aload_n C (jd jdt_Mo_ask 3 rfl) rfl) ?_
    refine J_mono (w_iconst_0 C (jd jdt_Mo_ask 4 rfl)) ?_
    refine J_mono (jp_Mo_215 C F hp0 (jd jdt_Mo_ask 5 rfl)) ?_
    refine J_mono (w_ldc2 C (jd jdt_Mo_ask 6 rfl) jw_1824) ?_
    exact J_some (fun hx => hR (-1000000000000000) (sI M a0 1 0) hx _ _ (jd jdt_Mo_ask 7 rfl) )
  · refine J_mono (w_aload_n C (jd jdt_Mo_ask 8 rfl) rfl) ?_
    refine J_mono (w_aload_n C (jd jdt_Mo_ask 9 rfl) rfl) ?_
    refine J_mono (jg_Mo_215 C hp0 (jd jdt_Mo_ask 10 rfl)) ?_
    refine J_mono (jp_Mo_227 C F hp0 (jd jdt_Mo_ask 11 rfl)) ?_
    refine J_mono (w_aload_n C (jd jdt_Mo_ask 12 rfl) rfl) ?_
    refine J_mono (w_iconst_0 C (jd jdt_Mo_ask 13 rfl)) ?_
    refine J_mono (jp_Mo_215 C F hp0 (jd jdt_Mo_ask 14 rfl)) ?_
    refine J_mono (w_aload_n C (jd jdt_Mo_ask 15 rfl) rfl) ?_
    refine J_mono (w_iconst_0 C (jd jdt_Mo_ask 16 rfl)) ?_
    refine J_mono (jp_Mo_224 C F hp0 (jd jdt_Mo_ask 17 rfl)) ?_
    refine J_mono (w_aload_n C (jd jdt_Mo_ask 18 rfl) rfl) ?_
    refine J_mono (w_iconst_m1 C (jd jdt_Mo_ask 19 rfl)) ?_
    refine J_mono (jp_Mo_238 C F hp0 (jd jdt_Mo_ask 20 rfl)) ?_
    refine J_mono (w_aload_n C (jd jdt_Mo_ask 21 rfl) rfl) ?_
    refine J_mono (w_iconst_0 C (jd jdt_Mo_ask 22 rfl)) ?_
    refine J_mono (jp_Mo_218 C F hp0 (jd jdt_Mo_ask 23 rfl)) ?_
    refine J_mono (w_aload_n C (jd jdt_Mo_ask 24 rfl) rfl) ?_
    refine J_mono (w_iconst_m1 C (jd jdt_Mo_ask 25 rfl)) ?_
    refine J_mono (jp_Mo_221 C F hp0 (jd jdt_Mo_ask 26 rfl)) ?_
    refine J_mono (w_aload_n C (jd jdt_Mo_ask 27 rfl) rfl) ?_
    refine J_mono (w_iconst_0 C (jd jdt_Mo_ask 28 rfl)) ?_
    refine J_mono (jp_Mo_518 C F hp0 (jd jdt_Mo_ask 29 rfl)) ?_
    refine J_mono (w_aload_n C (jd jdt_Mo_ask 30 rfl) rfl) ?_
    refine J_mono (w_iconst_0 C (jd jdt_Mo_ask 31 rfl)) ?_
    refine J_mono (jp_Mo_524 C F hp0 (jd jdt_Mo_ask 32 rfl)) ?_
    refine J_mono (w_aload_n C (jd jdt_Mo_ask 33 rfl) rfl) ?_
    refine J_mono (w_iconst_0 C (jd jdt_Mo_ask 34 rfl)) ?_
    refine J_mono (jp_Mo_521 C F hp0 (jd jdt_Mo_ask 35 rfl)) ?_
    refine J_mono (w_aload_n C (jd jdt_Mo_ask 36 rfl) rfl) ?_
    refine J_mono (w_iconst_0 C (jd jdt_Mo_ask 37 rfl)) ?_
    refine J_mono (jp_Mo_530 C F hp0 (jd jdt_Mo_ask 38 rfl)) ?_
    refine J_mono (w_aload_n C (jd jdt_Mo_ask 39 rfl) rfl) ?_
    refine J_bind (fun q2 hq2 => ?_)
    refine J_mono (jc_Mo_622 C hp0 (C_Mo_qKind l G F a0 hp0 (sI (sI (sI (sI (sI (sI (sI (sI (sI (sI M a0 3 (M.1 a0 1)) a0 1 0) a0 2 0) a0 4 (-1)) a0 5 0) a0 6 (-1)) a0 89 0) a0 91 0) a0 92 0) a0 93 0) hq2) rfl (Nat.le_trans (Nat.le_of_ble_eq_true rfl : 5 + 1 ≤ 10) hD) (jd jdt_Mo_ask 40 rfl)) ?_
    refine J_mono (w_istore_n (ls' := [some (.ref a0), some (.int q2.1), none]) C (jd jdt_Mo_ask 41 rfl) (by decide) rfl rfl) ?_
    refine J_mono (w_aload_n C (jd jdt_Mo_ask 42 rfl) rfl) ?_
    refine J_mono (jg_Mo_218 C hp0 (jd jdt_Mo_ask 43 rfl)) ?_
    refine J_seq (fun (q3 : SM) => Wk p l e R s m args below meth c G 3 Q 0 0 jN0 (jce G q3) 104 [some (.ref a0), some (.int q2.1), none] []) ?_ (fun q3 hq3 => ?_)
    · refine J_br (w_if_ne (y := 0) C (jd jdt_Mo_ask 44 rfl) rfl) (fun h4 => J_pos h4 ?_) (fun h4 => J_neg h4 ?_)
      · refine J_mono (w_iload_n C (jd jdt_Mo_ask 45 rfl) rfl) ?_
        refine J_mono (w_iconst_3 C (jd jdt_Mo_ask 46 rfl)) ?_
        refine J_br (w_icmp_ge C (jd jdt_Mo_ask 47 rfl) rfl) (fun h5 => J_pos h5 ?_) (fun h5 => J_neg h5 ?_)
        · refine J_mono (w_aload_n C (jd jdt_Mo_ask 48 rfl) rfl) ?_
          refine J_bind (fun q6 hq6 => ?_)
          refine J_mono (jc_Mo_625 C hp0 (C_Mo_qTest l G F a0 hp0 q2.2 hq6) rfl (Nat.le_trans (Nat.le_of_ble_eq_true rfl : 9 + 1 ≤ 10) hD) (jd jdt_Mo_ask 49 rfl)) ?_
          refine J_mono (w_goto C (jd jdt_Mo_ask 50 rfl) rfl) ?_
          exact J_some (fun hx => Wk_sb hx ⟨rfl, rfl, trivial⟩)
        · refine J_mono (w_aload_n C (jd jdt_Mo_ask 51 rfl) rfl) ?_
          refine J_mono (jg_Mo_218 C hp0 (jd jdt_Mo_ask 52 rfl)) ?_
          refine J_br (w_if_ne (y := 0) C (jd jdt_Mo_ask 53 rfl) rfl) (fun h7 => J_pos h7 ?_) (fun h7 => J_neg h7 ?_)
          · refine J_mono (w_aload_n C (jd jdt_Mo_ask 54 rfl) rfl) ?_
            refine J_bind (fun q8 hq8 => ?_)
            refine J_mono (jc_Mo_569 C hp0 (C_Mo_qSums l G F a0 hp0 q2.2 hq8) rfl (Nat.le_trans (Nat.le_of_ble_eq_true rfl : 7 + 1 ≤ 10) hD) (jd jdt_Mo_ask 55 rfl)) ?_
            exact J_some (fun hx => Wk_sb hx ⟨rfl, rfl, trivial⟩)
          · exact J_some (fun hx => Wk_sb hx ⟨rfl, rfl, trivial⟩)
      · refine J_mono (w_aload_n C (jd jdt_Mo_ask 51 rfl) rfl) ?_
        refine J_mono (jg_Mo_218 C hp0 (jd jdt_Mo_ask 52 rfl)) ?_
        refine J_br (w_if_ne (y := 0) C (jd jdt_Mo_ask 53 rfl) rfl) (fun h9 => J_pos h9 ?_) (fun h9 => J_neg h9 ?_)
        · refine J_mono (w_aload_n C (jd jdt_Mo_ask 54 rfl) rfl) ?_
          refine J_bind (fun q10 hq10 => ?_)
          refine J_mono (jc_Mo_569 C hp0 (C_Mo_qSums l G F a0 hp0 q2.2 hq10) rfl (Nat.le_trans (Nat.le_of_ble_eq_true rfl : 7 + 1 ≤ 10) hD) (jd jdt_Mo_ask 55 rfl)) ?_
          exact J_some (fun hx => Wk_sb hx ⟨rfl, rfl, trivial⟩)
        · exact J_some (fun hx => Wk_sb hx ⟨rfl, rfl, trivial⟩)
    · refine J_mono (w_aload_n C (jd jdt_Mo_ask 56 rfl) rfl) ?_
      refine J_mono (jg_Mo_218 C hp0 (jd jdt_Mo_ask 57 rfl)) ?_
      refine J_seq (fun (q11 : SM) => Wk p l e R s m args below meth c G 3 Q 0 0 jN0 (jce G q11) 128 [some (.ref a0), some (.int q2.1), none] []) ?_ (fun q11 hq11 => ?_)
      · refine J_br (w_if_ne (y := 0) C (jd jdt_Mo_ask 58 rfl) rfl) (fun h12 => J_pos h12 ?_) (fun h12 => J_neg h12 ?_)
        · refine J_mono (w_aload_n C (jd jdt_Mo_ask 59 rfl) rfl) ?_
          refine J_bind (fun q13 hq13 => ?_)
          refine J_mono (jc_Mo_230 C hp0 (C_Mo_look l G F a0 hp0 q3 hq13) rfl (Nat.le_trans (Nat.le_of_ble_eq_true rfl : 1 + 1 ≤ 10) hD) (jd jdt_Mo_ask 60 rfl)) ?_
          refine J_mono (w_iconst_m1 C (jd jdt_Mo_ask 61 rfl)) ?_
          refine J_br (w_icmp_eq C (jd jdt_Mo_ask 62 rfl) rfl) (fun h14 => J_pos h14 ?_) (fun h14 => J_neg h14 ?_)
          · exact J_some (fun hx => Wk_sb hx ⟨rfl, rfl, trivial⟩)
          · refine J_mono (w_aload_n C (jd jdt_Mo_ask 63 rfl) rfl) ?_
            refine J_mono (w_iconst_1 C (jd jdt_Mo_ask 64 rfl)) ?_
            refine J_mono (w_aload_n C (jd jdt_Mo_ask 65 rfl) rfl) ?_
            refine J_mono (jg_Mo_224 C hp0 (jd jdt_Mo_ask 66 rfl)) ?_
            refine J_bind (fun q15 hq15 => ?_)
            refine J_mono (jc_Mo_248 C hp0 (C_Mo_fail l G F a0 1 (q13.2.1 a0 2) hp0 q13.2 hq15) rfl (Nat.le_trans (Nat.le_of_ble_eq_true rfl : 1 + 1 ≤ 10) hD) (jd jdt_Mo_ask 67 rfl)) ?_
            exact J_some (fun hx => Wk_sb hx ⟨rfl, rfl, trivial⟩)
        · exact J_some (fun hx => Wk_sb hx ⟨rfl, rfl, trivial⟩)
      · refine J_mono (w_aload_n C (jd jdt_Mo_ask 68 rfl) rfl) ?_
        refine J_mono (w_aload_n C (jd jdt_Mo_ask 69 rfl) rfl) ?_
        refine J_mono (jg_Mo_218 C hp0 (jd jdt_Mo_ask 70 rfl)) ?_
        refine J_mono (jp_Mo_361 C F hp0 (jd jdt_Mo_ask 71 rfl)) ?_
        refine J_mono (w_aload_n C (jd jdt_Mo_ask 72 rfl) rfl) ?_
        refine J_mono (w_aload_n C (jd jdt_Mo_ask 73 rfl) rfl) ?_
        refine J_mono (jg_Mo_221 C hp0 (jd jdt_Mo_ask 74 rfl)) ?_
        refine J_mono (jp_Mo_13 C F hp0 (jd jdt_Mo_ask 75 rfl)) ?_
        refine J_mono (w_aload_n C (jd jdt_Mo_ask 76 rfl) rfl) ?_
        refine J_mono (jg_Mo_218 C hp0 (jd jdt_Mo_ask 77 rfl)) ?_
        refine J_br (w_if_eq (y := 0) C (jd jdt_Mo_ask 78 rfl) rfl) (fun h16 => J_pos h16 ?_) (fun h16 => J_neg h16 ?_)
        · refine J_mono (w_aload_n C (jd jdt_Mo_ask 81 rfl) rfl) ?_
          refine J_mono (w_iload_n C (jd jdt_Mo_ask 82 rfl) rfl) ?_
          refine J_mono (w_iconst_2 C (jd jdt_Mo_ask 83 rfl)) ?_
          refine J_seq (fun (q17 : Int64) => Wk p l e R s m args below meth c G 3 Q 0 0 jN0 (jce G (sI (sI q11 a0 7 (q11.1 a0 5)) a0 8 ((sI q11 a0 7 (q11.1 a0 5)).1 a0 6))) 168 [some (.ref a0), some (.int q2.1), none] [.long q17, .ref a0]) ?_ (fun q17 hq17 => ?_)
          · refine J_br (w_icmp_ge C (jd jdt_Mo_ask 84 rfl) rfl) (fun h18 => J_pos h18 ?_) (fun h18 => J_neg h18 ?_)
            · refine J_mono (w_ldc2 C (jd jdt_Mo_ask 85 rfl) jw_1690) ?_
              refine J_mono (w_goto C (jd jdt_Mo_ask 86 rfl) rfl) ?_
              exact J_some (fun hx => Wk_sb hx ⟨rfl, rfl, trivial⟩)
            · refine J_mono (w_lconst_0 C (jd jdt_Mo_ask 87 rfl)) ?_
              exact J_some (fun hx => Wk_sb hx ⟨rfl, rfl, trivial⟩)
          · refine J_mono (jp_Mo_614 C F hp0 (jd jdt_Mo_ask 88 rfl)) ?_
            refine J_mono (w_aload_n C (jd jdt_Mo_ask 89 rfl) rfl) ?_
            refine J_mono (w_iconst_1 C (jd jdt_Mo_ask 90 rfl)) ?_
            refine J_mono (jp_Mo_617 C F hp0 (Or.inr rfl) (jd jdt_Mo_ask 91 rfl)) ?_
            refine J_mono (w_iconst_0 C (jd jdt_Mo_ask 92 rfl)) ?_
            refine J_mono (w_istore_n (ls' := [some (.ref a0), some (.int q2.1), some (.int 0)]) C (jd jdt_Mo_ask 93 rfl) (by decide) rfl rfl) ?_
            have L178 : ∀ (y0 : Nat) (y1 : Int32) (hy0 : jkd y0 12) (n : Nat) (x2 : Int32) (M : SM), J (fun (q22 : SM) => Wk p l e R s m args below meth c G 3 Q 0 0 jN0 (jce G q22) 201 [some (.ref y0), none, none] []) (lp_Mo_ask_178 y0 y1 n x2 M) (Wk p l e R s m args below meth c G 3 Q 0 0 jN0 (jce G M) 178 [some (.ref y0), some (.int y1), some (.int x2)] []) := by
              intro y0 y1 hy0 n
              induction n with
              | zero => intro x2 M; exact J_none
              | succ n ih =>
                intro x2 M
                unfold lp_Mo_ask_178
                refine J_mono (w_iload_n C (jd jdt_Mo_ask 94 rfl) rfl) ?_
                refine J_mono (w_bipush_60 C (jd jdt_Mo_ask 95 rfl)) ?_
                refine J_br (w_icmp_gt C (jd jdt_Mo_ask 96 rfl) rfl) (fun h19 => J_pos h19 ?_) (fun h19 => J_neg h19 ?_)
                · exact J_some (fun hx => Wk_sb hx ⟨rfl, trivial⟩)
                · refine J_mono (w_aload_n C (jd jdt_Mo_ask 97 rfl) rfl) ?_
                  refine J_mono (w_iload_n C (jd jdt_Mo_ask 98 rfl) rfl) ?_
                  refine J_mono (w_aload_n C (jd jdt_Mo_ask 99 rfl) rfl) ?_
                  refine J_mono (w_iload_n C (jd jdt_Mo_ask 100 rfl) rfl) ?_
                  refine J_bind (fun q20 hq20 => ?_)
                  refine J_mono (jc_Mo_628 C hy0 (C_Mo_qTold l G F y0 x2 hy0 M hq20) rfl (Nat.le_trans (Nat.le_of_ble_eq_true rfl : 3 + 1 ≤ 10) hD) (jd jdt_Mo_ask 101 rfl)) ?_
                  refine J_mono (w_iload_n C (jd jdt_Mo_ask 102 rfl) rfl) ?_
                  refine J_bind (fun q21 hq21 => ?_)
                  refine J_mono (jc_Mo_632 C hy0 (C_Mo_qTakes l G F y0 y1 q20.1 x2 hy0 q20.2 hq21) rfl (Nat.le_trans (Nat.le_of_ble_eq_true rfl : 1 + 1 ≤ 10) hD) (jd jdt_Mo_ask 103 rfl)) ?_
                  refine J_mono (w_iinc (v := x2 + 1) (ls' := [some (.ref y0), some (.int y1), some (.int (x2 + 1))]) C (jd jdt_Mo_ask 104 rfl) rfl rfl (by decide) rfl rfl) ?_
                  refine J_mono (w_goto C (jd jdt_Mo_ask 105 rfl) rfl) ?_
                  exact J_sub (ih (x2 + 1) q21) ⟨rfl, rfl, rfl, trivial⟩
            refine J_seq (fun (q22 : SM) => Wk p l e R s m args below meth c G 3 Q 0 0 jN0 (jce G q22) 201 [some (.ref a0), none, none] []) (J_sub (L178 a0 q2.1 hp0 jfuel 0 (sI (sL (sI (sI q11 a0 7 (q11.1 a0 5)) a0 8 ((sI q11 a0 7 (q11.1 a0 5)).1 a0 6)) a0 96 q17) a0 97 1)) ⟨rfl, rfl, rfl, trivial⟩) (fun q22 hq22 => ?_)
            refine J_mono (w_aload_n C (jd jdt_Mo_ask 106 rfl) rfl) ?_
            refine J_mono (jg_Mo_614 C hp0 (jd jdt_Mo_ask 107 rfl)) ?_
            exact J_some (fun hx => hR (q22.2 a0 96) q22 hx _ _ (jd jdt_Mo_ask 108 rfl) )
        · refine J_mono (w_ldc2 C (jd jdt_Mo_ask 79 rfl) jw_1824) ?_
          exact J_some (fun hx => hR (-1000000000000000) (sI (sI q11 a0 7 (q11.1 a0 5)) a0 8 ((sI q11 a0 7 (q11.1 a0 5)).1 a0 6)) hx _ _ (jd jdt_Mo_ask 80 rfl) )
end
theorem C_Mo_ask (l : Launch) (G : JG) (F : jF G = false) (a0 : Nat) (hp0 : jkd a0 12) (M : SM) {q : (Int64 × SM)} (hf : f_Mo_ask a0 M = some q) : jMet l jy_Mo_ask jb_Mo_ask 3 (some FieldType.long) 10 0 0 G [.ref a0] jN0 (jce G M) (some (.long q.1)) jN0 (jce G q.2) :=
  j_met jo_Mo_ask (by decide) (Nat.le_of_ble_eq_true rfl) (fun p e s m args below meth c C hr hm => K_Mo_ask C F (Nat.le_refl _) a0 hp0 M (fun t => t = q) (fun v M' hX pc ls hd => by cases hX; exact w_lret C hr hd) _ hf rfl)
def lp_Mo_checked_6 (y0 : Nat) (y1 : Int32) (M : SM) : Nat → Int32 → Int32 → Option (Int32)
  | 0, _, _ => none
  | n + 1, x2, x3 => if x3 < y1 then ((aI M y0 x3).bind fun v2 => lp_Mo_checked_6 y0 y1 M n (((3 * x2) + v2) - ((3 * x2) + v2) / 251 * 251) (x3 + 1)) else (some x2)
def f_Mo_checked (a0 : Nat) (a1 : Int32) (M : SM) : Option Int32 := (lp_Mo_checked_6 a0 a1 M jfuel 149 0).bind fun q3 => some q3
section
variable {p : Program} {l : Launch} {e : Env} {R : Room} {s : State} {m : MethodId} {args : Array Value} {below : List Frame} {meth : Method} {c : Code} {G : JG} {D : Nat} {Q : State → Prop}
set_option maxHeartbeats 4000000 in
set_option maxRecDepth 20000 in
theorem K_Mo_checked (C : jCx p R s m args meth c G jb_Mo_checked 4 D "SluicePitModel") (F : jF G = false) (hD : 1 ≤ D) (a0 : Nat) (a1 : Int32) (hp0 : jkd a0 100) (M : SM) (X : Int32 → Prop) (hR : ∀ v, X v → ∀ (pc : Nat) (ls : List (Option Value)), decode jb_Mo_checked pc = .ok (.ireturn, 1) → narrow FieldType.int (.int v) = .int v → Wk p l e R s m args below meth c G 4 Q 0 0 jN0 (jce G M) pc ls [.int v]) : J X (f_Mo_checked a0 a1 M) (Wk p l e R s m args below meth c G 4 Q 0 0 jN0 (jce G M) 0 [some (.ref a0), some (.int a1), none, none] []) := by
  unfold f_Mo_checked
  refine J_mono (w_sipush_149 C (jd jdt_Mo_checked 0 rfl)) ?_
  refine J_mono (w_istore_n (ls' := [some (.ref a0), some (.int a1), some (.int 149), none]) C (jd jdt_Mo_checked 1 rfl) (by decide) rfl rfl) ?_
  refine J_mono (w_iconst_0 C (jd jdt_Mo_checked 2 rfl)) ?_
  refine J_mono (w_istore_n (ls' := [some (.ref a0), some (.int a1), some (.int 149), some (.int 0)]) C (jd jdt_Mo_checked 3 rfl) (by decide) rfl rfl) ?_
  have L6 : ∀ (y0 : Nat) (y1 : Int32) (hy0 : jkd y0 100) (n : Nat) (x2 : Int32) (x3 : Int32), J (fun (q3 : Int32) => Wk p l e R s m args below meth c G 4 Q 0 0 jN0 (jce G M) 29 [none, none, some (.int q3), none] []) (lp_Mo_checked_6 y0 y1 M n x2 x3) (Wk p l e R s m args below meth c G 4 Q 0 0 jN0 (jce G M) 6 [some (.ref y0), some (.int y1), some (.int x2), some (.int x3)] []) := by
    intro y0 y1 hy0 n
    induction n with
    | zero => intro x2 x3; exact J_none
    | succ n ih =>
      intro x2 x3
      unfold lp_Mo_checked_6
      refine J_mono (w_iload_n C (jd jdt_Mo_checked 4 rfl) rfl) ?_
      refine J_mono (w_iload_n C (jd jdt_Mo_checked 5 rfl) rfl) ?_
      refine J_br (w_icmp_ge C (jd jdt_Mo_checked 6 rfl) rfl) (fun h1 => J_pos h1 ?_) (fun h1 => J_neg h1 ?_)
      · refine J_mono (w_iconst_3 C (jd jdt_Mo_checked 7 rfl)) ?_
        refine J_mono (w_iload_n C (jd jdt_Mo_checked 8 rfl) rfl) ?_
        refine J_mono (w_imul C (jd jdt_Mo_checked 9 rfl)) ?_
        refine J_mono (w_aload_n C (jd jdt_Mo_checked 10 rfl) rfl) ?_
        refine J_mono (w_iload_n C (jd jdt_Mo_checked 11 rfl) rfl) ?_
        refine J_bind (fun v2 hv2 => ?_)
        refine J_mono (w_iald C hy0 hv2 (jd jdt_Mo_checked 12 rfl)) ?_
        refine J_mono (w_iadd C (jd jdt_Mo_checked 13 rfl)) ?_
        refine J_mono (w_sipush_251 C (jd jdt_Mo_checked 14 rfl)) ?_
        refine J_mono (w_irem C (jd jdt_Mo_checked 15 rfl) (by decide)) ?_
        refine J_mono (w_istore_n (ls' := [some (.ref y0), some (.int y1), some (.int (((3 * x2) + v2) - ((3 * x2) + v2) / 251 * 251)), some (.int x3)]) C (jd jdt_Mo_checked 16 rfl) (by decide) rfl rfl) ?_
        refine J_mono (w_iinc (v := x3 + 1) (ls' := [some (.ref y0), some (.int y1), some (.int (((3 * x2) + v2) - ((3 * x2) + v2) / 251 * 251)), some (.int (x3 + 1))]) C (jd jdt_Mo_checked 17 rfl) rfl rfl (by decide) rfl rfl) ?_
        refine J_mono (w_goto C (jd jdt_Mo_checked 18 rfl) rfl) ?_
        exact J_sub (ih (((3 * x2) + v2) - ((3 * x2) + v2) / 251 * 251) (x3 + 1)) ⟨rfl, rfl, rfl, rfl, trivial⟩
      · exact J_some (fun hx => Wk_sb hx ⟨rfl, trivial⟩)
  refine J_seq (fun (q3 : Int32) => Wk p l e R s m args below meth c G 4 Q 0 0 jN0 (jce G M) 29 [none, none, some (.int q3), none] []) (J_sub (L6 a0 a1 hp0 jfuel 149 0) ⟨rfl, rfl, rfl, rfl, trivial⟩) (fun q3 hq3 => ?_)
  refine J_mono (w_iload_n C (jd jdt_Mo_checked 19 rfl) rfl) ?_
  exact J_some (fun hx => hR q3 hx _ _ (jd jdt_Mo_checked 20 rfl) rfl)
end
theorem C_Mo_checked (l : Launch) (G : JG) (F : jF G = false) (a0 : Nat) (a1 : Int32) (hp0 : jkd a0 100) (M : SM) {q : Int32} (hf : f_Mo_checked a0 a1 M = some q) : jMet l jy_Mo_checked jb_Mo_checked 4 (some FieldType.int) 1 0 0 G [.ref a0, .int a1] jN0 (jce G M) (some (.int q)) jN0 (jce G M) :=
  j_met jo_Mo_checked (by decide) (Nat.le_of_ble_eq_true rfl) (fun p e s m args below meth c C hr hm => K_Mo_checked C F (Nat.le_refl _) a0 a1 hp0 M (fun t => t = q) (fun v hX pc ls hd hn => by cases hX; exact w_iret C hr hn hd) _ hf rfl)
def lp_Mo_image_17 (y0 : Nat) (y1 : Int32) : Nat → Int32 → SM → Option (SM)
  | 0, _, _ => none
  | n + 1, x2, M => (f_Mo_barsOf y0 y1 M).bind fun q3 => if q3 < x2 then (some M) else ((aI M (jpf y0 36) ((488 + (61 * y1)) + x2)).bind fun v5 => (aS M (jpf y0 98) (M.1 y0 99) v5).bind fun M6 => lp_Mo_image_17 y0 y1 n (x2 + 1) (sI M6 y0 99 ((M6.1 y0 99) + 1)))
def lp_Mo_image_7 (y0 : Nat) : Nat → Int32 → SM → Option (SM)
  | 0, _, _ => none
  | n + 1, x1, M => (f_Mo_deskMany y0 M).bind fun q1 => if x1 < q1 then ((lp_Mo_image_17 y0 x1 jfuel 0 M).bind fun q7 => lp_Mo_image_7 y0 n (x1 + 1) q7) else (some M)
def f_Mo_image (a0 : Nat) (M : SM) : Option (Int32 × SM) := (lp_Mo_image_7 a0 jfuel 0 (sI M a0 99 0)).bind fun q8 => (f_Mo_checked (jpf a0 98) (q8.1 a0 99) q8).bind fun q9 => (aS q8 (jpf a0 98) (q8.1 a0 99) q9).bind fun M10 => some ((sI M10 a0 99 ((M10.1 a0 99) + 1)).1 a0 99, sI M10 a0 99 ((M10.1 a0 99) + 1))
section
variable {p : Program} {l : Launch} {e : Env} {R : Room} {s : State} {m : MethodId} {args : Array Value} {below : List Frame} {meth : Method} {c : Code} {G : JG} {D : Nat} {Q : State → Prop}
set_option maxHeartbeats 4000000 in
set_option maxRecDepth 20000 in
theorem K_Mo_image (C : jCx p R s m args meth c G jb_Mo_image 3 D "SluicePitModel") (F : jF G = false) (hD : 2 ≤ D) (a0 : Nat) (hp0 : jkd a0 12) (M : SM) (X : (Int32 × SM) → Prop) (hR : ∀ v M', X (v, M') → ∀ (pc : Nat) (ls : List (Option Value)), decode jb_Mo_image pc = .ok (.ireturn, 1) → narrow FieldType.int (.int v) = .int v → Wk p l e R s m args below meth c G 3 Q 0 0 jN0 (jce G M') pc ls [.int v]) : J X (f_Mo_image a0 M) (Wk p l e R s m args below meth c G 3 Q 0 0 jN0 (jce G M) 0 [some (.ref a0), none, none] []) := by
  unfold f_Mo_image
  refine J_mono (w_aload_n C (jd jdt_Mo_image 0 rfl) rfl) ?_
  refine J_mono (w_iconst_0 C (jd jdt_Mo_image 1 rfl)) ?_
  refine J_mono (jp_Mo_636 C F hp0 (jd jdt_Mo_image 2 rfl)) ?_
  refine J_mono (w_iconst_0 C (jd jdt_Mo_image 3 rfl)) ?_
  refine J_mono (w_istore_n (ls' := [some (.ref a0), some (.int 0), none]) C (jd jdt_Mo_image 4 rfl) (by decide) rfl rfl) ?_
  have L7 : ∀ (y0 : Nat) (hy0 : jkd y0 12) (n : Nat) (x1 : Int32) (M : SM), J (fun (q8 : SM) => Wk p l e R s m args below meth c G 3 Q 0 0 jN0 (jce G q8) 72 [some (.ref y0), none, none] []) (lp_Mo_image_7 y0 n x1 M) (Wk p l e R s m args below meth c G 3 Q 0 0 jN0 (jce G M) 7 [some (.ref y0), some (.int x1), none] []) := by
    intro y0 hy0 n
    induction n with
    | zero => intro x1 M; exact J_none
    | succ n ih =>
      intro x1 M
      unfold lp_Mo_image_7
      refine J_mono (w_iload_n C (jd jdt_Mo_image 5 rfl) rfl) ?_
      refine J_mono (w_aload_n C (jd jdt_Mo_image 6 rfl) rfl) ?_
      refine J_bind (fun q1 hq1 => ?_)
      refine J_mono (jc_Mo_380 C hy0 (C_Mo_deskMany l G F y0 hy0 M hq1) rfl (Nat.le_trans (Nat.le_of_ble_eq_true rfl : 1 + 1 ≤ 2) hD) (jd jdt_Mo_image 7 rfl)) ?_
      refine J_br (w_icmp_ge C (jd jdt_Mo_image 8 rfl) rfl) (fun h2 => J_pos h2 ?_) (fun h2 => J_neg h2 ?_)
      · refine J_mono (w_iconst_0 C (jd jdt_Mo_image 9 rfl)) ?_
        refine J_mono (w_istore_n (ls' := [some (.ref y0), some (.int x1), some (.int 0)]) C (jd jdt_Mo_image 10 rfl) (by decide) rfl rfl) ?_
        have L17 : ∀ (y0 : Nat) (y1 : Int32) (hy0 : jkd y0 12) (n : Nat) (x2 : Int32) (M : SM), J (fun (q7 : SM) => Wk p l e R s m args below meth c G 3 Q 0 0 jN0 (jce G q7) 66 [some (.ref y0), some (.int y1), none] []) (lp_Mo_image_17 y0 y1 n x2 M) (Wk p l e R s m args below meth c G 3 Q 0 0 jN0 (jce G M) 17 [some (.ref y0), some (.int y1), some (.int x2)] []) := by
          intro y0 y1 hy0 n
          induction n with
          | zero => intro x2 M; exact J_none
          | succ n ih =>
            intro x2 M
            unfold lp_Mo_image_17
            refine J_mono (w_iload_n C (jd jdt_Mo_image 11 rfl) rfl) ?_
            refine J_mono (w_aload_n C (jd jdt_Mo_image 12 rfl) rfl) ?_
            refine J_mono (w_iload_n C (jd jdt_Mo_image 13 rfl) rfl) ?_
            refine J_bind (fun q3 hq3 => ?_)
            refine J_mono (jc_Mo_383 C hy0 (C_Mo_barsOf l G F y0 y1 hy0 M hq3) rfl (Nat.le_trans (Nat.le_of_ble_eq_true rfl : 1 + 1 ≤ 2) hD) (jd jdt_Mo_image 14 rfl)) ?_
            refine J_br (w_icmp_gt C (jd jdt_Mo_image 15 rfl) rfl) (fun h4 => J_pos h4 ?_) (fun h4 => J_neg h4 ?_)
            · exact J_some (fun hx => Wk_sb hx ⟨rfl, rfl, trivial⟩)
            · refine J_mono (w_aload_n C (jd jdt_Mo_image 16 rfl) rfl) ?_
              refine J_mono (jg_Mo_212 C hy0 (jd jdt_Mo_image 17 rfl)) ?_
              refine J_mono (w_aload_n C (jd jdt_Mo_image 18 rfl) rfl) ?_
              refine J_mono (jg_Mo_636 C hy0 (jd jdt_Mo_image 19 rfl)) ?_
              refine J_mono (w_aload_n C (jd jdt_Mo_image 20 rfl) rfl) ?_
              refine J_mono (jg_Mo_88 C hy0 (jd jdt_Mo_image 21 rfl)) ?_
              refine J_mono (w_sipush_488 C (jd jdt_Mo_image 22 rfl)) ?_
              refine J_mono (w_bipush_61 C (jd jdt_Mo_image 23 rfl)) ?_
              refine J_mono (w_iload_n C (jd jdt_Mo_image 24 rfl) rfl) ?_
              refine J_mono (w_imul C (jd jdt_Mo_image 25 rfl)) ?_
              refine J_mono (w_iadd C (jd jdt_Mo_image 26 rfl)) ?_
              refine J_mono (w_iload_n C (jd jdt_Mo_image 27 rfl) rfl) ?_
              refine J_mono (w_iadd C (jd jdt_Mo_image 28 rfl)) ?_
              refine J_bind (fun v5 hv5 => ?_)
              refine J_mono (w_iald C (jkf_12_36 hy0) hv5 (jd jdt_Mo_image 29 rfl)) ?_
              refine J_bind (fun M6 hM6 => ?_)
              refine J_mono (w_iast C F (jkf_12_98 hy0) hM6 (jd jdt_Mo_image 30 rfl)) ?_
              refine J_mono (w_aload_n C (jd jdt_Mo_image 31 rfl) rfl) ?_
              refine J_mono (w_dup_r C (jd jdt_Mo_image 32 rfl)) ?_
              refine J_mono (jg_Mo_636 C hy0 (jd jdt_Mo_image 33 rfl)) ?_
              refine J_mono (w_iconst_1 C (jd jdt_Mo_image 34 rfl)) ?_
              refine J_mono (w_iadd C (jd jdt_Mo_image 35 rfl)) ?_
              refine J_mono (jp_Mo_636 C F hy0 (jd jdt_Mo_image 36 rfl)) ?_
              refine J_mono (w_iinc (v := x2 + 1) (ls' := [some (.ref y0), some (.int y1), some (.int (x2 + 1))]) C (jd jdt_Mo_image 37 rfl) rfl rfl (by decide) rfl rfl) ?_
              refine J_mono (w_goto C (jd jdt_Mo_image 38 rfl) rfl) ?_
              exact J_sub (ih (x2 + 1) (sI M6 y0 99 ((M6.1 y0 99) + 1))) ⟨rfl, rfl, rfl, trivial⟩
        refine J_seq (fun (q7 : SM) => Wk p l e R s m args below meth c G 3 Q 0 0 jN0 (jce G q7) 66 [some (.ref y0), some (.int x1), none] []) (J_sub (L17 y0 x1 hy0 jfuel 0 M) ⟨rfl, rfl, rfl, trivial⟩) (fun q7 hq7 => ?_)
        refine J_mono (w_iinc (v := x1 + 1) (ls' := [some (.ref y0), some (.int (x1 + 1)), none]) C (jd jdt_Mo_image 39 rfl) rfl rfl (by decide) rfl rfl) ?_
        refine J_mono (w_goto C (jd jdt_Mo_image 40 rfl) rfl) ?_
        exact J_sub (ih (x1 + 1) q7) ⟨rfl, rfl, trivial⟩
      · exact J_some (fun hx => Wk_sb hx ⟨rfl, trivial⟩)
  refine J_seq (fun (q8 : SM) => Wk p l e R s m args below meth c G 3 Q 0 0 jN0 (jce G q8) 72 [some (.ref a0), none, none] []) (J_sub (L7 a0 hp0 jfuel 0 (sI M a0 99 0)) ⟨rfl, rfl, trivial⟩) (fun q8 hq8 => ?_)
  refine J_mono (w_aload_n C (jd jdt_Mo_image 41 rfl) rfl) ?_
  refine J_mono (jg_Mo_212 C hp0 (jd jdt_Mo_image 42 rfl)) ?_
  refine J_mono (w_aload_n C (jd jdt_Mo_image 43 rfl) rfl) ?_
  refine J_mono (jg_Mo_636 C hp0 (jd jdt_Mo_image 44 rfl)) ?_
  refine J_mono (w_aload_n C (jd jdt_Mo_image 45 rfl) rfl) ?_
  refine J_mono (jg_Mo_212 C hp0 (jd jdt_Mo_image 46 rfl)) ?_
  refine J_mono (w_aload_n C (jd jdt_Mo_image 47 rfl) rfl) ?_
  refine J_mono (jg_Mo_636 C hp0 (jd jdt_Mo_image 48 rfl)) ?_
  refine J_bind (fun q9 hq9 => ?_)
  refine J_mono (jc_Mo_639 C (C_Mo_checked l G F (jpf a0 98) (q8.1 a0 99) (jkf_12_98 hp0) q8 hq9) rfl (Nat.le_trans (Nat.le_of_ble_eq_true rfl : 1 + 1 ≤ 2) hD) (jd jdt_Mo_image 49 rfl)) ?_
  refine J_bind (fun M10 hM10 => ?_)
  refine J_mono (w_iast C F (jkf_12_98 hp0) hM10 (jd jdt_Mo_image 50 rfl)) ?_
  refine J_mono (w_aload_n C (jd jdt_Mo_image 51 rfl) rfl) ?_
  refine J_mono (w_dup_r C (jd jdt_Mo_image 52 rfl)) ?_
  refine J_mono (jg_Mo_636 C hp0 (jd jdt_Mo_image 53 rfl)) ?_
  refine J_mono (w_iconst_1 C (jd jdt_Mo_image 54 rfl)) ?_
  refine J_mono (w_iadd C (jd jdt_Mo_image 55 rfl)) ?_
  refine J_mono (jp_Mo_636 C F hp0 (jd jdt_Mo_image 56 rfl)) ?_
  refine J_mono (w_aload_n C (jd jdt_Mo_image 57 rfl) rfl) ?_
  refine J_mono (jg_Mo_636 C hp0 (jd jdt_Mo_image 58 rfl)) ?_
  exact J_some (fun hx => hR ((sI M10 a0 99 ((M10.1 a0 99) + 1)).1 a0 99) (sI M10 a0 99 ((M10.1 a0 99) + 1)) hx _ _ (jd jdt_Mo_image 59 rfl) rfl)
end
theorem C_Mo_image (l : Launch) (G : JG) (F : jF G = false) (a0 : Nat) (hp0 : jkd a0 12) (M : SM) {q : (Int32 × SM)} (hf : f_Mo_image a0 M = some q) : jMet l jy_Mo_image jb_Mo_image 3 (some FieldType.int) 2 0 0 G [.ref a0] jN0 (jce G M) (some (.int q.1)) jN0 (jce G q.2) :=
  j_met jo_Mo_image (by decide) (Nat.le_of_ble_eq_true rfl) (fun p e s m args below meth c C hr hm => K_Mo_image C F (Nat.le_refl _) a0 hp0 M (fun t => t = q) (fun v M' hX pc ls hd hn => by cases hX; exact w_iret C hr hn hd) _ hf rfl)
def f_Mo_octet (a0 : Nat) (a1 : Int32) (M : SM) : Option Int32 := if a1 < 0 then (some (-1)) else (if a1 < (M.1 a0 99) then ((aI M (jpf a0 98) a1).bind fun v3 => some v3) else (some (-1)))
section
variable {p : Program} {l : Launch} {e : Env} {R : Room} {s : State} {m : MethodId} {args : Array Value} {below : List Frame} {meth : Method} {c : Code} {G : JG} {D : Nat} {Q : State → Prop}
set_option maxHeartbeats 4000000 in
set_option maxRecDepth 20000 in
theorem K_Mo_octet (C : jCx p R s m args meth c G jb_Mo_octet 2 D "SluicePitModel") (F : jF G = false) (hD : 1 ≤ D) (a0 : Nat) (a1 : Int32) (hp0 : jkd a0 12) (M : SM) (X : Int32 → Prop) (hR : ∀ v, X v → ∀ (pc : Nat) (ls : List (Option Value)), decode jb_Mo_octet pc = .ok (.ireturn, 1) → narrow FieldType.int (.int v) = .int v → Wk p l e R s m args below meth c G 2 Q 0 0 jN0 (jce G M) pc ls [.int v]) : J X (f_Mo_octet a0 a1 M) (Wk p l e R s m args below meth c G 2 Q 0 0 jN0 (jce G M) 0 [some (.ref a0), some (.int a1)] []) := by
  unfold f_Mo_octet
  refine J_mono (w_iload_n C (jd jdt_Mo_octet 0 rfl) rfl) ?_
  refine J_br (w_if_lt (y := 0) C (jd jdt_Mo_octet 1 rfl) rfl) (fun h1 => J_pos h1 ?_) (fun h1 => J_neg h1 ?_)
  · refine J_mono (w_iconst_m1 C (jd jdt_Mo_octet 11 rfl)) ?_
    exact J_some (fun hx => hR (-1) hx _ _ (jd jdt_Mo_octet 12 rfl) rfl)
  · refine J_mono (w_iload_n C (jd jdt_Mo_octet 2 rfl) rfl) ?_
    refine J_mono (w_aload_n C (jd jdt_Mo_octet 3 rfl) rfl) ?_
    refine J_mono (jg_Mo_636 C hp0 (jd jdt_Mo_octet 4 rfl)) ?_
    refine J_br (w_icmp_ge C (jd jdt_Mo_octet 5 rfl) rfl) (fun h2 => J_pos h2 ?_) (fun h2 => J_neg h2 ?_)
    · refine J_mono (w_aload_n C (jd jdt_Mo_octet 6 rfl) rfl) ?_
      refine J_mono (jg_Mo_212 C hp0 (jd jdt_Mo_octet 7 rfl)) ?_
      refine J_mono (w_iload_n C (jd jdt_Mo_octet 8 rfl) rfl) ?_
      refine J_bind (fun v3 hv3 => ?_)
      refine J_mono (w_iald C (jkf_12_98 hp0) hv3 (jd jdt_Mo_octet 9 rfl)) ?_
      refine J_mono (w_goto C (jd jdt_Mo_octet 10 rfl) rfl) ?_
      exact J_some (fun hx => hR v3 hx _ _ (jd jdt_Mo_octet 12 rfl) rfl)
    · refine J_mono (w_iconst_m1 C (jd jdt_Mo_octet 11 rfl)) ?_
      exact J_some (fun hx => hR (-1) hx _ _ (jd jdt_Mo_octet 12 rfl) rfl)
end
theorem C_Mo_octet (l : Launch) (G : JG) (F : jF G = false) (a0 : Nat) (a1 : Int32) (hp0 : jkd a0 12) (M : SM) {q : Int32} (hf : f_Mo_octet a0 a1 M = some q) : jMet l jy_Mo_octet jb_Mo_octet 2 (some FieldType.int) 1 0 0 G [.ref a0, .int a1] jN0 (jce G M) (some (.int q)) jN0 (jce G M) :=
  j_met jo_Mo_octet (by decide) (Nat.le_of_ble_eq_true rfl) (fun p e s m args below meth c C hr hm => K_Mo_octet C F (Nat.le_refl _) a0 a1 hp0 M (fun t => t = q) (fun v hX pc ls hd hn => by cases hX; exact w_iret C hr hn hd) _ hf rfl)
def lp_Mo_isTold_86 (y0 : Nat) (y2 : Int32) (M : SM) : Nat → Int32 → Option ((Unit) ⊕ Int32)
  | 0, _ => none
  | n + 1, x4 => (aI M (jpf y0 0) y2).bind fun v13 => if v13 < x4 then (some (.inl ())) else ((aI M (jpf y0 0) (y2 + x4)).bind fun v15 => if 3 < v15 then (some (.inr 0)) else (lp_Mo_isTold_86 y0 y2 M n (x4 + 1)))
def lp_Mo_isTold_39 (y0 : Nat) (y1 : Int32) (M : SM) : Nat → Int32 → Int32 → Option ((Int32) ⊕ Int32)
  | 0, _, _ => none
  | n + 1, x2, x3 => (f_Mo_deskMany y0 M).bind fun q6 => if x3 < q6 then (if x2 < (y1 - 1) then ((aI M (jpf y0 0) x2).bind fun v9 => if 60 < v9 then (some (.inr 0)) else ((aI M (jpf y0 0) x2).bind fun v11 => if (y1 - 1) < ((x2 + 1) + v11) then (some (.inr 0)) else (jsb (lp_Mo_isTold_86 y0 x2 M jfuel 1) Sum.inr fun q17 => (aI M (jpf y0 0) x2).bind fun v18 => lp_Mo_isTold_39 y0 y1 M n (x2 + (1 + v18)) (x3 + 1)))) else (some (.inr 0))) else (some (.inl x2))
def f_Mo_isTold (a0 : Nat) (a1 : Int32) (M : SM) : Option Int32 := if (M.1 a0 31) = 0 then (some 0) else (if a1 < 1 then (some 0) else ((aI M (jpf a0 0) (a1 - 1)).bind fun v3 => (f_Mo_checked (jpf a0 0) (a1 - 1) M).bind fun q4 => if v3 = q4 then (jsb (lp_Mo_isTold_39 a0 a1 M jfuel 0 0) id fun q19 => if q19 = (a1 - 1) then (some 1) else (some 0)) else (some 0)))
section
variable {p : Program} {l : Launch} {e : Env} {R : Room} {s : State} {m : MethodId} {args : Array Value} {below : List Frame} {meth : Method} {c : Code} {G : JG} {D : Nat} {Q : State → Prop}
set_option maxHeartbeats 4000000 in
set_option maxRecDepth 20000 in
theorem K_Mo_isTold (C : jCx p R s m args meth c G jb_Mo_isTold 5 D "SluicePitModel") (F : jF G = false) (hD : 2 ≤ D) (a0 : Nat) (a1 : Int32) (hp0 : jkd a0 12) (M : SM) (X : Int32 → Prop) (hR : ∀ v, X v → ∀ (pc : Nat) (ls : List (Option Value)), decode jb_Mo_isTold pc = .ok (.ireturn, 1) → narrow FieldType.boolean (.int v) = .int v → Wk p l e R s m args below meth c G 5 Q 0 0 jN0 (jce G M) pc ls [.int v]) : J X (f_Mo_isTold a0 a1 M) (Wk p l e R s m args below meth c G 5 Q 0 0 jN0 (jce G M) 0 [some (.ref a0), some (.int a1), none, none, none] []) := by
  unfold f_Mo_isTold
  refine J_mono (w_aload_n C (jd jdt_Mo_isTold 0 rfl) rfl) ?_
  refine J_mono (jg_Mo_367 C hp0 (jd jdt_Mo_isTold 1 rfl)) ?_
  refine J_br (w_if_eq (y := 0) C (jd jdt_Mo_isTold 2 rfl) rfl) (fun h1 => J_pos h1 ?_) (fun h1 => J_neg h1 ?_)
  · refine J_mono (w_iconst_0 C (jd jdt_Mo_isTold 19 rfl)) ?_
    exact J_some (fun hx => hR 0 hx _ _ (jd jdt_Mo_isTold 20 rfl) rfl)
  · refine J_mono (w_iload_n C (jd jdt_Mo_isTold 3 rfl) rfl) ?_
    refine J_mono (w_iconst_1 C (jd jdt_Mo_isTold 4 rfl)) ?_
    refine J_br (w_icmp_lt C (jd jdt_Mo_isTold 5 rfl) rfl) (fun h2 => J_pos h2 ?_) (fun h2 => J_neg h2 ?_)
    · refine J_mono (w_iconst_0 C (jd jdt_Mo_isTold 19 rfl)) ?_
      exact J_some (fun hx => hR 0 hx _ _ (jd jdt_Mo_isTold 20 rfl) rfl)
    · refine J_mono (w_aload_n C (jd jdt_Mo_isTold 6 rfl) rfl) ?_
      refine J_mono (jg_Mo_7 C hp0 (jd jdt_Mo_isTold 7 rfl)) ?_
      refine J_mono (w_iload_n C (jd jdt_Mo_isTold 8 rfl) rfl) ?_
      refine J_mono (w_iconst_1 C (jd jdt_Mo_isTold 9 rfl)) ?_
      refine J_mono (w_isub C (jd jdt_Mo_isTold 10 rfl)) ?_
      refine J_bind (fun v3 hv3 => ?_)
      refine J_mono (w_iald C (jkf_12_0 hp0) hv3 (jd jdt_Mo_isTold 11 rfl)) ?_
      refine J_mono (w_aload_n C (jd jdt_Mo_isTold 12 rfl) rfl) ?_
      refine J_mono (jg_Mo_7 C hp0 (jd jdt_Mo_isTold 13 rfl)) ?_
      refine J_mono (w_iload_n C (jd jdt_Mo_isTold 14 rfl) rfl) ?_
      refine J_mono (w_iconst_1 C (jd jdt_Mo_isTold 15 rfl)) ?_
      refine J_mono (w_isub C (jd jdt_Mo_isTold 16 rfl)) ?_
      refine J_bind (fun q4 hq4 => ?_)
      refine J_mono (jc_Mo_639 C (C_Mo_checked l G F (jpf a0 0) (a1 - 1) (jkf_12_0 hp0) M hq4) rfl (Nat.le_trans (Nat.le_of_ble_eq_true rfl : 1 + 1 ≤ 2) hD) (jd jdt_Mo_isTold 17 rfl)) ?_
      refine J_br (w_icmp_eq C (jd jdt_Mo_isTold 18 rfl) rfl) (fun h5 => J_pos h5 ?_) (fun h5 => J_neg h5 ?_)
      · refine J_mono (w_iconst_0 C (jd jdt_Mo_isTold 21 rfl)) ?_
        refine J_mono (w_istore_n (ls' := [some (.ref a0), some (.int a1), some (.int 0), none, none]) C (jd jdt_Mo_isTold 22 rfl) (by decide) rfl rfl) ?_
        refine J_mono (w_iconst_0 C (jd jdt_Mo_isTold 23 rfl)) ?_
        refine J_mono (w_istore_n (ls' := [some (.ref a0), some (.int a1), some (.int 0), some (.int 0), none]) C (jd jdt_Mo_isTold 24 rfl) (by decide) rfl rfl) ?_
        have L39 : ∀ (y0 : Nat) (y1 : Int32) (hy0 : jkd y0 12) (n : Nat) (x2 : Int32) (x3 : Int32), J (Sum.elim (fun (q19 : Int32) => Wk p l e R s m args below meth c G 5 Q 0 0 jN0 (jce G M) 135 [none, some (.int y1), some (.int q19), none, none] []) X) (lp_Mo_isTold_39 y0 y1 M n x2 x3) (Wk p l e R s m args below meth c G 5 Q 0 0 jN0 (jce G M) 39 [some (.ref y0), some (.int y1), some (.int x2), some (.int x3), none] []) := by
          intro y0 y1 hy0 n
          induction n with
          | zero => intro x2 x3; exact J_none
          | succ n ih =>
            intro x2 x3
            unfold lp_Mo_isTold_39
            refine J_mono (w_iload_n C (jd jdt_Mo_isTold 25 rfl) rfl) ?_
            refine J_mono (w_aload_n C (jd jdt_Mo_isTold 26 rfl) rfl) ?_
            refine J_bind (fun q6 hq6 => ?_)
            refine J_mono (jc_Mo_380 C hy0 (C_Mo_deskMany l G F y0 hy0 M hq6) rfl (Nat.le_trans (Nat.le_of_ble_eq_true rfl : 1 + 1 ≤ 2) hD) (jd jdt_Mo_isTold 27 rfl)) ?_
            refine J_br (w_icmp_ge C (jd jdt_Mo_isTold 28 rfl) rfl) (fun h7 => J_pos h7 ?_) (fun h7 => J_neg h7 ?_)
            · refine J_mono (w_iload_n C (jd jdt_Mo_isTold 29 rfl) rfl) ?_
              refine J_mono (w_iload_n C (jd jdt_Mo_isTold 30 rfl) rfl) ?_
              refine J_mono (w_iconst_1 C (jd jdt_Mo_isTold 31 rfl)) ?_
              refine J_mono (w_isub C (jd jdt_Mo_isTold 32 rfl)) ?_
              refine J_br (w_icmp_ge C (jd jdt_Mo_isTold 33 rfl) rfl) (fun h8 => J_pos h8 ?_) (fun h8 => J_neg h8 ?_)
              · refine J_mono (w_aload_n C (jd jdt_Mo_isTold 34 rfl) rfl) ?_
                refine J_mono (jg_Mo_7 C hy0 (jd jdt_Mo_isTold 35 rfl)) ?_
                refine J_mono (w_iload_n C (jd jdt_Mo_isTold 36 rfl) rfl) ?_
                refine J_bind (fun v9 hv9 => ?_)
                refine J_mono (w_iald C (jkf_12_0 hy0) hv9 (jd jdt_Mo_isTold 37 rfl)) ?_
                refine J_mono (w_bipush_60 C (jd jdt_Mo_isTold 38 rfl)) ?_
                refine J_br (w_icmp_gt C (jd jdt_Mo_isTold 39 rfl) rfl) (fun h10 => J_pos h10 ?_) (fun h10 => J_neg h10 ?_)
                · refine J_mono (w_iconst_0 C (jd jdt_Mo_isTold 52 rfl)) ?_
                  exact J_some (fun hx => hR 0 hx _ _ (jd jdt_Mo_isTold 53 rfl) rfl)
                · refine J_mono (w_iload_n C (jd jdt_Mo_isTold 40 rfl) rfl) ?_
                  refine J_mono (w_iconst_1 C (jd jdt_Mo_isTold 41 rfl)) ?_
                  refine J_mono (w_iadd C (jd jdt_Mo_isTold 42 rfl)) ?_
                  refine J_mono (w_aload_n C (jd jdt_Mo_isTold 43 rfl) rfl) ?_
                  refine J_mono (jg_Mo_7 C hy0 (jd jdt_Mo_isTold 44 rfl)) ?_
                  refine J_mono (w_iload_n C (jd jdt_Mo_isTold 45 rfl) rfl) ?_
                  refine J_bind (fun v11 hv11 => ?_)
                  refine J_mono (w_iald C (jkf_12_0 hy0) hv11 (jd jdt_Mo_isTold 46 rfl)) ?_
                  refine J_mono (w_iadd C (jd jdt_Mo_isTold 47 rfl)) ?_
                  refine J_mono (w_iload_n C (jd jdt_Mo_isTold 48 rfl) rfl) ?_
                  refine J_mono (w_iconst_1 C (jd jdt_Mo_isTold 49 rfl)) ?_
                  refine J_mono (w_isub C (jd jdt_Mo_isTold 50 rfl)) ?_
                  refine J_br (w_icmp_le C (jd jdt_Mo_isTold 51 rfl) rfl) (fun h12 => J_pos h12 ?_) (fun h12 => J_neg h12 ?_)
                  · refine J_mono (w_iconst_0 C (jd jdt_Mo_isTold 52 rfl)) ?_
                    exact J_some (fun hx => hR 0 hx _ _ (jd jdt_Mo_isTold 53 rfl) rfl)
                  · refine J_mono (w_iconst_1 C (jd jdt_Mo_isTold 54 rfl)) ?_
                    refine J_mono (w_istore (ls' := [some (.ref y0), some (.int y1), some (.int x2), some (.int x3), some (.int 1)]) C (jd jdt_Mo_isTold 55 rfl) (by decide) rfl rfl) ?_
                    have L86 : ∀ (y0 : Nat) (y1 : Int32) (y2 : Int32) (y3 : Int32) (hy0 : jkd y0 12) (n : Nat) (x4 : Int32), J (Sum.elim (fun (q17 : Unit) => Wk p l e R s m args below meth c G 5 Q 0 0 jN0 (jce G M) 118 [some (.ref y0), some (.int y1), some (.int y2), some (.int y3), none] []) X) (lp_Mo_isTold_86 y0 y2 M n x4) (Wk p l e R s m args below meth c G 5 Q 0 0 jN0 (jce G M) 86 [some (.ref y0), some (.int y1), some (.int y2), some (.int y3), some (.int x4)] []) := by
                      intro y0 y1 y2 y3 hy0 n
                      induction n with
                      | zero => intro x4; exact J_none
                      | succ n ih =>
                        intro x4
                        unfold lp_Mo_isTold_86
                        refine J_mono (w_iload C (jd jdt_Mo_isTold 56 rfl) rfl) ?_
                        refine J_mono (w_aload_n C (jd jdt_Mo_isTold 57 rfl) rfl) ?_
                        refine J_mono (jg_Mo_7 C hy0 (jd jdt_Mo_isTold 58 rfl)) ?_
                        refine J_mono (w_iload_n C (jd jdt_Mo_isTold 59 rfl) rfl) ?_
                        refine J_bind (fun v13 hv13 => ?_)
                        refine J_mono (w_iald C (jkf_12_0 hy0) hv13 (jd jdt_Mo_isTold 60 rfl)) ?_
                        refine J_br (w_icmp_gt C (jd jdt_Mo_isTold 61 rfl) rfl) (fun h14 => J_pos h14 ?_) (fun h14 => J_neg h14 ?_)
                        · exact J_some (fun hx => Wk_sb hx ⟨rfl, rfl, rfl, rfl, trivial⟩)
                        · refine J_mono (w_aload_n C (jd jdt_Mo_isTold 62 rfl) rfl) ?_
                          refine J_mono (jg_Mo_7 C hy0 (jd jdt_Mo_isTold 63 rfl)) ?_
                          refine J_mono (w_iload_n C (jd jdt_Mo_isTold 64 rfl) rfl) ?_
                          refine J_mono (w_iload C (jd jdt_Mo_isTold 65 rfl) rfl) ?_
                          refine J_mono (w_iadd C (jd jdt_Mo_isTold 66 rfl)) ?_
                          refine J_bind (fun v15 hv15 => ?_)
                          refine J_mono (w_iald C (jkf_12_0 hy0) hv15 (jd jdt_Mo_isTold 67 rfl)) ?_
                          refine J_mono (w_iconst_3 C (jd jdt_Mo_isTold 68 rfl)) ?_
                          refine J_br (w_icmp_le C (jd jdt_Mo_isTold 69 rfl) rfl) (fun h16 => J_pos h16 ?_) (fun h16 => J_neg h16 ?_)
                          · refine J_mono (w_iconst_0 C (jd jdt_Mo_isTold 70 rfl)) ?_
                            exact J_some (fun hx => hR 0 hx _ _ (jd jdt_Mo_isTold 71 rfl) rfl)
                          · refine J_mono (w_iinc (v := x4 + 1) (ls' := [some (.ref y0), some (.int y1), some (.int y2), some (.int y3), some (.int (x4 + 1))]) C (jd jdt_Mo_isTold 72 rfl) rfl rfl (by decide) rfl rfl) ?_
                            refine J_mono (w_goto C (jd jdt_Mo_isTold 73 rfl) rfl) ?_
                            exact J_sub (ih (x4 + 1)) ⟨rfl, rfl, rfl, rfl, rfl, trivial⟩
                    refine J_sb (fun (q17 : Unit) => Wk p l e R s m args below meth c G 5 Q 0 0 jN0 (jce G M) 118 [some (.ref y0), some (.int y1), some (.int x2), some (.int x3), none] []) (J_sub (L86 y0 y1 x2 x3 hy0 jfuel 1) ⟨rfl, rfl, rfl, rfl, rfl, trivial⟩) (fun q17 => ?_)
                    refine J_mono (w_iload_n C (jd jdt_Mo_isTold 74 rfl) rfl) ?_
                    refine J_mono (w_iconst_1 C (jd jdt_Mo_isTold 75 rfl)) ?_
                    refine J_mono (w_aload_n C (jd jdt_Mo_isTold 76 rfl) rfl) ?_
                    refine J_mono (jg_Mo_7 C hy0 (jd jdt_Mo_isTold 77 rfl)) ?_
                    refine J_mono (w_iload_n C (jd jdt_Mo_isTold 78 rfl) rfl) ?_
                    refine J_bind (fun v18 hv18 => ?_)
                    refine J_mono (w_iald C (jkf_12_0 hy0) hv18 (jd jdt_Mo_isTold 79 rfl)) ?_
                    refine J_mono (w_iadd C (jd jdt_Mo_isTold 80 rfl)) ?_
                    refine J_mono (w_iadd C (jd jdt_Mo_isTold 81 rfl)) ?_
                    refine J_mono (w_istore_n (ls' := [some (.ref y0), some (.int y1), some (.int (x2 + (1 + v18))), some (.int x3), none]) C (jd jdt_Mo_isTold 82 rfl) (by decide) rfl rfl) ?_
                    refine J_mono (w_iinc (v := x3 + 1) (ls' := [some (.ref y0), some (.int y1), some (.int (x2 + (1 + v18))), some (.int (x3 + 1)), none]) C (jd jdt_Mo_isTold 83 rfl) rfl rfl (by decide) rfl rfl) ?_
                    refine J_mono (w_goto C (jd jdt_Mo_isTold 84 rfl) rfl) ?_
                    exact J_sub (ih (x2 + (1 + v18)) (x3 + 1)) ⟨rfl, rfl, rfl, rfl, trivial⟩
              · refine J_mono (w_iconst_0 C (jd jdt_Mo_isTold 52 rfl)) ?_
                exact J_some (fun hx => hR 0 hx _ _ (jd jdt_Mo_isTold 53 rfl) rfl)
            · exact J_some (fun hx => Wk_sb hx ⟨rfl, rfl, trivial⟩)
        refine J_sb (fun (q19 : Int32) => Wk p l e R s m args below meth c G 5 Q 0 0 jN0 (jce G M) 135 [none, some (.int a1), some (.int q19), none, none] []) (J_sub (L39 a0 a1 hp0 jfuel 0 0) ⟨rfl, rfl, rfl, rfl, trivial⟩) (fun q19 => ?_)
        refine J_mono (w_iload_n C (jd jdt_Mo_isTold 85 rfl) rfl) ?_
        refine J_mono (w_iload_n C (jd jdt_Mo_isTold 86 rfl) rfl) ?_
        refine J_mono (w_iconst_1 C (jd jdt_Mo_isTold 87 rfl)) ?_
        refine J_mono (w_isub C (jd jdt_Mo_isTold 88 rfl)) ?_
        refine J_br (w_icmp_ne C (jd jdt_Mo_isTold 89 rfl) rfl) (fun h20 => J_pos h20 ?_) (fun h20 => J_neg h20 ?_)
        · refine J_mono (w_iconst_1 C (jd jdt_Mo_isTold 90 rfl)) ?_
          refine J_mono (w_goto C (jd jdt_Mo_isTold 91 rfl) rfl) ?_
          exact J_some (fun hx => hR 1 hx _ _ (jd jdt_Mo_isTold 93 rfl) rfl)
        · refine J_mono (w_iconst_0 C (jd jdt_Mo_isTold 92 rfl)) ?_
          exact J_some (fun hx => hR 0 hx _ _ (jd jdt_Mo_isTold 93 rfl) rfl)
      · refine J_mono (w_iconst_0 C (jd jdt_Mo_isTold 19 rfl)) ?_
        exact J_some (fun hx => hR 0 hx _ _ (jd jdt_Mo_isTold 20 rfl) rfl)
end
theorem C_Mo_isTold (l : Launch) (G : JG) (F : jF G = false) (a0 : Nat) (a1 : Int32) (hp0 : jkd a0 12) (M : SM) {q : Int32} (hf : f_Mo_isTold a0 a1 M = some q) : jMet l jy_Mo_isTold jb_Mo_isTold 5 (some FieldType.boolean) 2 0 0 G [.ref a0, .int a1] jN0 (jce G M) (some (.int q)) jN0 (jce G M) :=
  j_met jo_Mo_isTold (by decide) (Nat.le_of_ble_eq_true rfl) (fun p e s m args below meth c C hr hm => K_Mo_isTold C F (Nat.le_refl _) a0 a1 hp0 M (fun t => t = q) (fun v hX pc ls hd hn => by cases hX; exact w_iret C hr hn hd) _ hf rfl)
def lp_Mo_on_43 (y0 : Nat) (y2 : Int32) (y3 : Int32) (y4 : Int32) : Nat → Int32 → SM → Option (SM)
  | 0, _, _ => none
  | n + 1, x5, M => if y4 < x5 then (some M) else ((aI M (jpf y0 0) (y2 + x5)).bind fun v7 => (aS M (jpf y0 36) ((488 + (61 * y3)) + x5) v7).bind fun M8 => lp_Mo_on_43 y0 y2 y3 y4 n (x5 + 1) M8)
def lp_Mo_on_24 (y0 : Nat) : Nat → Int32 → Int32 → SM → Option (SM)
  | 0, _, _, _ => none
  | n + 1, x2, x3, M => (f_Mo_deskMany y0 M).bind fun q3 => if x3 < q3 then ((aI M (jpf y0 0) x2).bind fun v5 => (lp_Mo_on_43 y0 x2 x3 v5 jfuel 0 M).bind fun q9 => lp_Mo_on_24 y0 n (x2 + (1 + v5)) (x3 + 1) q9) else (some M)
def f_Mo_on (a0 : Nat) (M : SM) : Option (Int32 × SM) := (f_Mo_isTold a0 (M.1 a0 1) (sI M a0 1 0)).bind fun q1 => if q1 = 0 then (some (0, sI M a0 1 0)) else ((lp_Mo_on_24 a0 jfuel 0 0 (sI M a0 1 0)).bind fun q10 => (f_Mo_plays a0 (sI q10 a0 63 0)).bind fun q11 => some (1, q11))
section
variable {p : Program} {l : Launch} {e : Env} {R : Room} {s : State} {m : MethodId} {args : Array Value} {below : List Frame} {meth : Method} {c : Code} {G : JG} {D : Nat} {Q : State → Prop}
set_option maxHeartbeats 4000000 in
set_option maxRecDepth 20000 in
theorem K_Mo_on (C : jCx p R s m args meth c G jb_Mo_on 6 D "SluicePitModel") (F : jF G = false) (hD : 6 ≤ D) (a0 : Nat) (hp0 : jkd a0 12) (M : SM) (X : (Int32 × SM) → Prop) (hR : ∀ v M', X (v, M') → ∀ (pc : Nat) (ls : List (Option Value)), decode jb_Mo_on pc = .ok (.ireturn, 1) → narrow FieldType.boolean (.int v) = .int v → Wk p l e R s m args below meth c G 6 Q 0 0 jN0 (jce G M') pc ls [.int v]) : J X (f_Mo_on a0 M) (Wk p l e R s m args below meth c G 6 Q 0 0 jN0 (jce G M) 0 [some (.ref a0), none, none, none, none, none] []) := by
  unfold f_Mo_on
  refine J_mono (w_aload_n C (jd jdt_Mo_on 0 rfl) rfl) ?_
  refine J_mono (jg_Mo_215 C hp0 (jd jdt_Mo_on 1 rfl)) ?_
  refine J_mono (w_istore_n (ls' := [some (.ref a0), some (.int (M.1 a0 1)), none, none, none, none]) C (jd jdt_Mo_on 2 rfl) (by decide) rfl rfl) ?_
  refine J_mono (w_aload_n C (jd jdt_Mo_on 3 rfl) rfl) ?_
  refine J_mono (w_iconst_0 C (jd jdt_Mo_on 4 rfl)) ?_
  refine J_mono (jp_Mo_215 C F hp0 (jd jdt_Mo_on 5 rfl)) ?_
  refine J_mono (w_aload_n C (jd jdt_Mo_on 6 rfl) rfl) ?_
  refine J_mono (w_iload_n C (jd jdt_Mo_on 7 rfl) rfl) ?_
  refine J_bind (fun q1 hq1 => ?_)
  refine J_mono (jc_Mo_643 C hp0 (C_Mo_isTold l G F a0 (M.1 a0 1) hp0 (sI M a0 1 0) hq1) rfl (Nat.le_trans (Nat.le_of_ble_eq_true rfl : 2 + 1 ≤ 6) hD) (jd jdt_Mo_on 8 rfl)) ?_
  refine J_br (w_if_ne (y := 0) C (jd jdt_Mo_on 9 rfl) rfl) (fun h2 => J_pos h2 ?_) (fun h2 => J_neg h2 ?_)
  · refine J_mono (w_iconst_0 C (jd jdt_Mo_on 10 rfl)) ?_
    exact J_some (fun hx => hR 0 (sI M a0 1 0) hx _ _ (jd jdt_Mo_on 11 rfl) rfl)
  · refine J_mono (w_iconst_0 C (jd jdt_Mo_on 12 rfl)) ?_
    refine J_mono (w_istore_n (ls' := [some (.ref a0), some (.int (M.1 a0 1)), some (.int 0), none, none, none]) C (jd jdt_Mo_on 13 rfl) (by decide) rfl rfl) ?_
    refine J_mono (w_iconst_0 C (jd jdt_Mo_on 14 rfl)) ?_
    refine J_mono (w_istore_n (ls' := [some (.ref a0), some (.int (M.1 a0 1)), some (.int 0), some (.int 0), none, none]) C (jd jdt_Mo_on 15 rfl) (by decide) rfl rfl) ?_
    have L24 : ∀ (y0 : Nat) (hy0 : jkd y0 12) (n : Nat) (x2 : Int32) (x3 : Int32) (M : SM), J (fun (q10 : SM) => Wk p l e R s m args below meth c G 6 Q 0 0 jN0 (jce G q10) 94 [some (.ref y0), none, none, none, none, none] []) (lp_Mo_on_24 y0 n x2 x3 M) (Wk p l e R s m args below meth c G 6 Q 0 0 jN0 (jce G M) 24 [some (.ref y0), none, some (.int x2), some (.int x3), none, none] []) := by
      intro y0 hy0 n
      induction n with
      | zero => intro x2 x3 M; exact J_none
      | succ n ih =>
        intro x2 x3 M
        unfold lp_Mo_on_24
        refine J_mono (w_iload_n C (jd jdt_Mo_on 16 rfl) rfl) ?_
        refine J_mono (w_aload_n C (jd jdt_Mo_on 17 rfl) rfl) ?_
        refine J_bind (fun q3 hq3 => ?_)
        refine J_mono (jc_Mo_380 C hy0 (C_Mo_deskMany l G F y0 hy0 M hq3) rfl (Nat.le_trans (Nat.le_of_ble_eq_true rfl : 1 + 1 ≤ 6) hD) (jd jdt_Mo_on 18 rfl)) ?_
        refine J_br (w_icmp_ge C (jd jdt_Mo_on 19 rfl) rfl) (fun h4 => J_pos h4 ?_) (fun h4 => J_neg h4 ?_)
        · refine J_mono (w_aload_n C (jd jdt_Mo_on 20 rfl) rfl) ?_
          refine J_mono (jg_Mo_7 C hy0 (jd jdt_Mo_on 21 rfl)) ?_
          refine J_mono (w_iload_n C (jd jdt_Mo_on 22 rfl) rfl) ?_
          refine J_bind (fun v5 hv5 => ?_)
          refine J_mono (w_iald C (jkf_12_0 hy0) hv5 (jd jdt_Mo_on 23 rfl)) ?_
          refine J_mono (w_istore (ls' := [some (.ref y0), none, some (.int x2), some (.int x3), some (.int v5), none]) C (jd jdt_Mo_on 24 rfl) (by decide) rfl rfl) ?_
          refine J_mono (w_iconst_0 C (jd jdt_Mo_on 25 rfl)) ?_
          refine J_mono (w_istore (ls' := [some (.ref y0), none, some (.int x2), some (.int x3), some (.int v5), some (.int 0)]) C (jd jdt_Mo_on 26 rfl) (by decide) rfl rfl) ?_
          have L43 : ∀ (y0 : Nat) (y2 : Int32) (y3 : Int32) (y4 : Int32) (hy0 : jkd y0 12) (n : Nat) (x5 : Int32) (M : SM), J (fun (q9 : SM) => Wk p l e R s m args below meth c G 6 Q 0 0 jN0 (jce G q9) 81 [some (.ref y0), none, some (.int y2), some (.int y3), some (.int y4), none] []) (lp_Mo_on_43 y0 y2 y3 y4 n x5 M) (Wk p l e R s m args below meth c G 6 Q 0 0 jN0 (jce G M) 43 [some (.ref y0), none, some (.int y2), some (.int y3), some (.int y4), some (.int x5)] []) := by
            intro y0 y2 y3 y4 hy0 n
            induction n with
            | zero => intro x5 M; exact J_none
            | succ n ih =>
              intro x5 M
              unfold lp_Mo_on_43
              refine J_mono (w_iload C (jd jdt_Mo_on 27 rfl) rfl) ?_
              refine J_mono (w_iload C (jd jdt_Mo_on 28 rfl) rfl) ?_
              refine J_br (w_icmp_gt C (jd jdt_Mo_on 29 rfl) rfl) (fun h6 => J_pos h6 ?_) (fun h6 => J_neg h6 ?_)
              · exact J_some (fun hx => Wk_sb hx ⟨rfl, rfl, rfl, rfl, trivial⟩)
              · refine J_mono (w_aload_n C (jd jdt_Mo_on 30 rfl) rfl) ?_
                refine J_mono (jg_Mo_88 C hy0 (jd jdt_Mo_on 31 rfl)) ?_
                refine J_mono (w_sipush_488 C (jd jdt_Mo_on 32 rfl)) ?_
                refine J_mono (w_bipush_61 C (jd jdt_Mo_on 33 rfl)) ?_
                refine J_mono (w_iload_n C (jd jdt_Mo_on 34 rfl) rfl) ?_
                refine J_mono (w_imul C (jd jdt_Mo_on 35 rfl)) ?_
                refine J_mono (w_iadd C (jd jdt_Mo_on 36 rfl)) ?_
                refine J_mono (w_iload C (jd jdt_Mo_on 37 rfl) rfl) ?_
                refine J_mono (w_iadd C (jd jdt_Mo_on 38 rfl)) ?_
                refine J_mono (w_aload_n C (jd jdt_Mo_on 39 rfl) rfl) ?_
                refine J_mono (jg_Mo_7 C hy0 (jd jdt_Mo_on 40 rfl)) ?_
                refine J_mono (w_iload_n C (jd jdt_Mo_on 41 rfl) rfl) ?_
                refine J_mono (w_iload C (jd jdt_Mo_on 42 rfl) rfl) ?_
                refine J_mono (w_iadd C (jd jdt_Mo_on 43 rfl)) ?_
                refine J_bind (fun v7 hv7 => ?_)
                refine J_mono (w_iald C (jkf_12_0 hy0) hv7 (jd jdt_Mo_on 44 rfl)) ?_
                refine J_bind (fun M8 hM8 => ?_)
                refine J_mono (w_iast C F (jkf_12_36 hy0) hM8 (jd jdt_Mo_on 45 rfl)) ?_
                refine J_mono (w_iinc (v := x5 + 1) (ls' := [some (.ref y0), none, some (.int y2), some (.int y3), some (.int y4), some (.int (x5 + 1))]) C (jd jdt_Mo_on 46 rfl) rfl rfl (by decide) rfl rfl) ?_
                refine J_mono (w_goto C (jd jdt_Mo_on 47 rfl) rfl) ?_
                exact J_sub (ih (x5 + 1) M8) ⟨rfl, rfl, rfl, rfl, rfl, trivial⟩
          refine J_seq (fun (q9 : SM) => Wk p l e R s m args below meth c G 6 Q 0 0 jN0 (jce G q9) 81 [some (.ref y0), none, some (.int x2), some (.int x3), some (.int v5), none] []) (J_sub (L43 y0 x2 x3 v5 hy0 jfuel 0 M) ⟨rfl, rfl, rfl, rfl, rfl, trivial⟩) (fun q9 hq9 => ?_)
          refine J_mono (w_iload_n C (jd jdt_Mo_on 48 rfl) rfl) ?_
          refine J_mono (w_iconst_1 C (jd jdt_Mo_on 49 rfl)) ?_
          refine J_mono (w_iload C (jd jdt_Mo_on 50 rfl) rfl) ?_
          refine J_mono (w_iadd C (jd jdt_Mo_on 51 rfl)) ?_
          refine J_mono (w_iadd C (jd jdt_Mo_on 52 rfl)) ?_
          refine J_mono (w_istore_n (ls' := [some (.ref y0), none, some (.int (x2 + (1 + v5))), some (.int x3), some (.int v5), none]) C (jd jdt_Mo_on 53 rfl) (by decide) rfl rfl) ?_
          refine J_mono (w_iinc (v := x3 + 1) (ls' := [some (.ref y0), none, some (.int (x2 + (1 + v5))), some (.int (x3 + 1)), some (.int v5), none]) C (jd jdt_Mo_on 54 rfl) rfl rfl (by decide) rfl rfl) ?_
          refine J_mono (w_goto C (jd jdt_Mo_on 55 rfl) rfl) ?_
          exact J_sub (ih (x2 + (1 + v5)) (x3 + 1) q9) ⟨rfl, rfl, rfl, trivial⟩
        · exact J_some (fun hx => Wk_sb hx ⟨rfl, trivial⟩)
    refine J_seq (fun (q10 : SM) => Wk p l e R s m args below meth c G 6 Q 0 0 jN0 (jce G q10) 94 [some (.ref a0), none, none, none, none, none] []) (J_sub (L24 a0 hp0 jfuel 0 0 (sI M a0 1 0)) ⟨rfl, rfl, rfl, trivial⟩) (fun q10 hq10 => ?_)
    refine J_mono (w_aload_n C (jd jdt_Mo_on 56 rfl) rfl) ?_
    refine J_mono (w_iconst_0 C (jd jdt_Mo_on 57 rfl)) ?_
    refine J_mono (jp_Mo_370 C F hp0 (jd jdt_Mo_on 58 rfl)) ?_
    refine J_mono (w_aload_n C (jd jdt_Mo_on 59 rfl) rfl) ?_
    refine J_bind (fun q11 hq11 => ?_)
    refine J_mono (jc_Mo_377 C hp0 (C_Mo_plays l G F a0 hp0 (sI q10 a0 63 0) hq11) rfl (Nat.le_trans (Nat.le_of_ble_eq_true rfl : 5 + 1 ≤ 6) hD) (jd jdt_Mo_on 60 rfl)) ?_
    refine J_mono (w_iconst_1 C (jd jdt_Mo_on 61 rfl)) ?_
    exact J_some (fun hx => hR 1 q11 hx _ _ (jd jdt_Mo_on 62 rfl) rfl)
end
theorem C_Mo_on (l : Launch) (G : JG) (F : jF G = false) (a0 : Nat) (hp0 : jkd a0 12) (M : SM) {q : (Int32 × SM)} (hf : f_Mo_on a0 M = some q) : jMet l jy_Mo_on jb_Mo_on 6 (some FieldType.boolean) 6 0 0 G [.ref a0] jN0 (jce G M) (some (.int q.1)) jN0 (jce G q.2) :=
  j_met jo_Mo_on (by decide) (Nat.le_of_ble_eq_true rfl) (fun p e s m args below meth c C hr hm => K_Mo_on C F (Nat.le_refl _) a0 hp0 M (fun t => t = q) (fun v M' hX pc ls hd hn => by cases hX; exact w_iret C hr hn hd) _ hf rfl)
